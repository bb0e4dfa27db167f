abbrev rm_X9_isTape : Room := { frames := 0, cells := 0, slots := 0, locals := 0 }
set_option maxHeartbeats 4000000 in
set_option maxRecDepth 100000 in
theorem c_X9_isTape (l : Launch) (G : GX)  {l0 : Int32} {res : Int32} (hf : f_X9_isTape l0 = some res) : MX l yX9_isTape cX9_isTape 1 (some .boolean) rm_X9_isTape G [] [.int l0] [] (some (.int res)) 0 0 := by
  refine MX.of (plainFor_of_name (by decide)) (Nat.le_of_ble_eq_true rfl) ?_
  intro p e s m below meth c A X E hI ls hl
  obtain ⟨hx, hb, hml, hown, hts, hr, hlk⟩ := id X
  have hl : lv_has ls 1 [(0, .int l0)] := hl
  unfold f_X9_isTape at hf
  refine lv_iload_n (pc := 0) hx hb dX9_isTape_0 rfl (lv_at hl 0 rfl) ?_
  refine lv_if_lt (pc := 1) (tgt := 14) hx hb dX9_isTape_1 (by decide) (fun c1 => ?_) (fun c1 => ?_)
  · have hf := q_ip c1 hf
    refine lv_iconst (pc := 14) (v := 0) hx hb dX9_isTape_14 (by decide) ?_
    obtain rfl := Option.some.inj hf
    exact x_zret X hI (Or.inl rfl) dX9_isTape_15
  · have hf := q_in c1 hf
    refine lv_iload_n (pc := 4) hx hb dX9_isTape_4 rfl (lv_at hl 0 rfl) ?_
    refine lv_bipush (pc := 5) (v := 6) hx hb dX9_isTape_5 (by decide) ?_
    refine lv_icmp_ge (pc := 7) (tgt := 14) hx hb dX9_isTape_7 (by decide) (fun c2 => ?_) (fun c2 => ?_)
    · have hf := q_ip c2 hf
      refine lv_iconst (pc := 14) (v := 0) hx hb dX9_isTape_14 (by decide) ?_
      obtain rfl := Option.some.inj hf
      exact x_zret X hI (Or.inl rfl) dX9_isTape_15
    · have hf := q_in c2 hf
      refine lv_iconst (pc := 10) (v := 1) hx hb dX9_isTape_10 (by decide) ?_
      refine lv_goto (pc := 11) (tgt := 15) hx hb dX9_isTape_11 (by decide) ?_
      obtain rfl := Option.some.inj hf
      exact x_zret X hI (Or.inr rfl) dX9_isTape_15

abbrev rm_X9_takes : Room := { frames := 0, cells := 0, slots := 0, locals := 0 }
set_option maxHeartbeats 4000000 in
set_option maxRecDepth 100000 in
theorem c_X9_takes (l : Launch) (G : GX)  {l0 : Int32} {l1 : Int32} {res : Int32} (hf : f_X9_takes l0 l1 = some res) : MX l yX9_takes cX9_takes 2 (some .boolean) rm_X9_takes G [] [.int l0, .int l1] [] (some (.int res)) 0 0 := by
  refine MX.of (plainFor_of_name (by decide)) (Nat.le_of_ble_eq_true rfl) ?_
  intro p e s m below meth c A X E hI ls hl
  obtain ⟨hx, hb, hml, hown, hts, hr, hlk⟩ := id X
  have hl : lv_has ls 2 [(0, .int l0), (1, .int l1)] := hl
  unfold f_X9_takes at hf
  refine lv_iload_n (pc := 0) hx hb dX9_takes_0 rfl (lv_at hl 0 rfl) ?_
  refine lv_if_eq (pc := 1) (tgt := 11) hx hb dX9_takes_1 (by decide) (fun c1 => ?_) (fun c1 => ?_)
  · have hf := q_ip c1 hf
    refine lv_iconst (pc := 11) (v := 1) hx hb dX9_takes_11 (by decide) ?_
    refine lv_goto (pc := 12) (tgt := 16) hx hb dX9_takes_12 (by decide) ?_
    obtain rfl := Option.some.inj hf
    exact x_zret X hI (Or.inr rfl) dX9_takes_16
  · have hf := q_in c1 hf
    refine lv_iload_n (pc := 4) hx hb dX9_takes_4 rfl (lv_at hl 0 rfl) ?_
    refine lv_iload_n (pc := 5) hx hb dX9_takes_5 rfl (lv_at hl 1 rfl) ?_
    refine lv_iconst (pc := 6) (v := 1) hx hb dX9_takes_6 (by decide) ?_
    refine lv_iadd (pc := 7) hx hb dX9_takes_7 ?_
    refine lv_icmp_ne (pc := 8) (tgt := 15) hx hb dX9_takes_8 (by decide) (fun c2 => ?_) (fun c2 => ?_)
    · have hf := q_in c2 hf
      refine lv_iconst (pc := 15) (v := 0) hx hb dX9_takes_15 (by decide) ?_
      obtain rfl := Option.some.inj hf
      exact x_zret X hI (Or.inl rfl) dX9_takes_16
    · have hf := q_ip c2 hf
      refine lv_iconst (pc := 11) (v := 1) hx hb dX9_takes_11 (by decide) ?_
      refine lv_goto (pc := 12) (tgt := 16) hx hb dX9_takes_12 (by decide) ?_
      obtain rfl := Option.some.inj hf
      exact x_zret X hI (Or.inr rfl) dX9_takes_16

abbrev rm_X9_lowestBits : Room := { frames := 0, cells := 0, slots := 0, locals := 0 }
set_option maxHeartbeats 4000000 in
set_option maxRecDepth 100000 in
theorem c_X9_lowestBits (l : Launch) (G : GX)  {l0 : Int32} {res : Int32} (hf : f_X9_lowestBits l0 = some res) : MX l yX9_lowestBits cX9_lowestBits 1 (some .int) rm_X9_lowestBits G [] [.int l0] [] (some (.int res)) 0 0 := by
  refine MX.of (plainFor_of_name (by decide)) (Nat.le_of_ble_eq_true rfl) ?_
  intro p e s m below meth c A X E hI ls hl
  obtain ⟨hx, hb, hml, hown, hts, hr, hlk⟩ := id X
  have hl : lv_has ls 1 [(0, .int l0)] := hl
  unfold f_X9_lowestBits at hf
  refine lv_iconst (pc := 0) (v := 1) hx hb dX9_lowestBits_0 (by decide) ?_
  refine lv_iload_n (pc := 1) hx hb dX9_lowestBits_1 rfl (lv_at hl 0 rfl) ?_
  refine lv_ishl (pc := 2) hx hb dX9_lowestBits_2 ?_
  refine lv_iconst (pc := 3) (v := 1) hx hb dX9_lowestBits_3 (by decide) ?_
  refine lv_isub (pc := 4) hx hb dX9_lowestBits_4 ?_
  obtain rfl := Option.some.inj hf
  exact x_iret X hI dX9_lowestBits_5

abbrev rm_X9_commonDivisor : Room := { frames := 0, cells := 0, slots := 0, locals := 0 }
set_option maxHeartbeats 4000000 in
set_option maxRecDepth 100000 in
theorem k_X9_commonDivisor_L7 {p : Program} {l : Launch} {e : Env} {s : State} {m : MethodId} {args : Array Value} {below : List Frame} {meth : Method} {c : Code} {A : Nat → Prop} {G : GX}   {K : Int32 → Int32 → Int32 → Option (Int32)} {res : Int32} (X : CX RX9 cX9_commonDivisor 6 (some .int) p s m args meth c) (E : EX G A s)
    (hK : ∀ (l2 : Int32) (l3 : Int32) (l4 : Int32) (H : Heap) (locs : List Loc) (ls : Array Slot), IN A G [] s H locs → lv_has ls 6 [(2, .int l2), (3, .int l3), (4, .int l4)] → K l2 l3 l4 = some res → W p l e rm_X9_commonDivisor s m args below meth c H locs 0 0 (MQ below (QX G A [] (some (.int res))) args s 0 0 A) (F0 m 34 ls [])) :
    ∀ {k : Nat} {l2 : Int32} {l3 : Int32} {l4 : Int32} {H : Heap} {locs : List Loc} {ls : Array Slot}, IN A G [] s H locs → lv_has ls 6 [(2, .int l2), (3, .int l3), (4, .int l4)] → f_X9_commonDivisor_L7 K k l2 l3 l4 = some res → W p l e rm_X9_commonDivisor s m args below meth c H locs 0 0 (MQ below (QX G A [] (some (.int res))) args s 0 0 A) (F0 m 7 ls []) := by
  obtain ⟨hx, hb, hml, hown, hts, hr, hlk⟩ := id X
  intro k
  induction k with
  | zero => intro l2 l3 l4 H locs ls hI hl hf; exact nomatch (show none = some res from hf)
  | succ k ih =>
    intro l2 l3 l4 H locs ls hI hl hf
    rw [f_X9_commonDivisor_L7] at hf
    refine lv_iload (pc := 7) hx hb dX9_commonDivisor_7 (lv_at hl 2 rfl) ?_
    refine lv_bipush (pc := 9) (v := 64) hx hb dX9_commonDivisor_9 (by decide) ?_
    refine lv_icmp_ge (pc := 11) (tgt := 34) hx hb dX9_commonDivisor_11 (by decide) (fun c1 => ?_) (fun c1 => ?_)
    · have hf := q_ip c1 hf
      exact hK _ _ _ _ _ _ hI (lv_sub hl [0, 1, 2] rfl) hf
    · have hf := q_in c1 hf
      refine lv_iload_n (pc := 14) hx hb dX9_commonDivisor_14 rfl (lv_at hl 1 rfl) ?_
      refine lv_if_le (pc := 15) (tgt := 34) hx hb dX9_commonDivisor_15 (by decide) (fun c2 => ?_) (fun c2 => ?_)
      · have hf := q_ip c2 hf
        exact hK _ _ _ _ _ _ hI (lv_sub hl [0, 1, 2] rfl) hf
      · have hf := q_in c2 hf
        refine lv_iload_n (pc := 18) hx hb dX9_commonDivisor_18 rfl (lv_at hl 0 rfl) ?_
        refine lv_iload_n (pc := 19) hx hb dX9_commonDivisor_19 rfl (lv_at hl 1 rfl) ?_
        obtain ⟨t3, e3, hf⟩ := q_ob hf
        refine x_irem (pc := 20) X e3 dX9_commonDivisor_20 ?_
        refine lv_istore (pc := 21) (lv' := [(5, .int t3), (2, .int l2), (3, .int l3), (4, .int l4)]) hx hb dX9_commonDivisor_21 hl (by decide) rfl (fun ls hl => ?_)
        refine lv_iload_n (pc := 23) hx hb dX9_commonDivisor_23 rfl (lv_at hl 2 rfl) ?_
        refine lv_istore_n (pc := 24) (lv' := [(2, .int l3), (5, .int t3), (3, .int l3), (4, .int l4)]) hx hb dX9_commonDivisor_24 rfl hl (by decide) rfl (fun ls hl => ?_)
        refine lv_iload (pc := 25) hx hb dX9_commonDivisor_25 (lv_at hl 1 rfl) ?_
        refine lv_istore_n (pc := 27) (lv' := [(3, .int t3), (2, .int l3), (5, .int t3), (4, .int l4)]) hx hb dX9_commonDivisor_27 rfl hl (by decide) rfl (fun ls hl => ?_)
        refine lv_iinc (pc := 28) (v := l4 + 1) (lv' := [(4, .int (l4 + 1)), (3, .int t3), (2, .int l3), (5, .int t3)]) hx hb dX9_commonDivisor_28 hl (k := 3) rfl rfl (by decide) rfl (fun ls hl => ?_)
        refine lv_goto (pc := 31) (tgt := 7) hx hb dX9_commonDivisor_31 (by decide) ?_
        exact ih hI (lv_sub hl [2, 1, 0] rfl) hf

set_option maxHeartbeats 4000000 in
set_option maxRecDepth 100000 in
theorem c_X9_commonDivisor (l : Launch) (G : GX)  {l0 : Int32} {l1 : Int32} {res : Int32} (hf : f_X9_commonDivisor l0 l1 = some res) : MX l yX9_commonDivisor cX9_commonDivisor 6 (some .int) rm_X9_commonDivisor G [] [.int l0, .int l1] [] (some (.int res)) 0 0 := by
  refine MX.of (plainFor_of_name (by decide)) (Nat.le_of_ble_eq_true rfl) ?_
  intro p e s m below meth c A X E hI ls hl
  obtain ⟨hx, hb, hml, hown, hts, hr, hlk⟩ := id X
  have hl : lv_has ls 6 [(0, .int l0), (1, .int l1)] := hl
  unfold f_X9_commonDivisor at hf
  refine lv_iload_n (pc := 0) hx hb dX9_commonDivisor_0 rfl (lv_at hl 0 rfl) ?_
  refine lv_istore_n (pc := 1) (lv' := [(2, .int l0), (0, .int l0), (1, .int l1)]) hx hb dX9_commonDivisor_1 rfl hl (by decide) rfl (fun ls hl => ?_)
  refine lv_iload_n (pc := 2) hx hb dX9_commonDivisor_2 rfl (lv_at hl 2 rfl) ?_
  refine lv_istore_n (pc := 3) (lv' := [(3, .int l1), (2, .int l0), (0, .int l0), (1, .int l1)]) hx hb dX9_commonDivisor_3 rfl hl (by decide) rfl (fun ls hl => ?_)
  refine lv_iconst (pc := 4) (v := 0) hx hb dX9_commonDivisor_4 (by decide) ?_
  refine lv_istore (pc := 5) (lv' := [(4, .int 0), (3, .int l1), (2, .int l0), (0, .int l0), (1, .int l1)]) hx hb dX9_commonDivisor_5 hl (by decide) rfl (fun ls hl => ?_)
  refine k_X9_commonDivisor_L7 X E (fun l2_1 l3_1 l4_1 H locs ls hI hl hf => ?_) hI (lv_sub hl [2, 1, 0] rfl) hf
  refine lv_iload_n (pc := 34) hx hb dX9_commonDivisor_34 rfl (lv_at hl 0 rfl) ?_
  obtain rfl := Option.some.inj hf
  exact x_iret X hI dX9_commonDivisor_35

abbrev rm_X9_isGenerator : Room := { frames := 0, cells := 0, slots := 0, locals := 0 }
set_option maxHeartbeats 4000000 in
set_option maxRecDepth 100000 in
theorem c_X9_isGenerator (l : Launch) (G : GX) (h : Nat → Nat) {l1 : Int32} {f_howManyGenerators : Int32} {x_hasImage : Int32} {f_places : Int32} {f_kinds : Int32} {f_weights : Nat → Int32} {f_generators : Nat → Int32} {f_racks : Nat → Int32} {f_howManySeen : Int32} {f_seenFirst : Nat → Int32} {f_seenSecond : Nat → Int32} {f_seenIs : Nat → Int32} {f_seenPlaces : Nat → Int32} {f_howManyEvents : Int32} {f_eventWhat : Nat → Int32} {f_eventNumber : Nat → Int32} {g_places : Int32} {g_kinds : Int32} {g_weights : Nat → Int32} {g_howManyGenerators : Int32} {g_generators : Nat → Int32} {g_racks : Nat → Int32} {g_howManySeen : Int32} {g_seenFirst : Nat → Int32} {g_seenSecond : Nat → Int32} {g_seenIs : Nat → Int32} {g_seenPlaces : Nat → Int32} {g_howManyEvents : Int32} {g_eventWhat : Nat → Int32} {g_eventNumber : Nat → Int32} {n_m0 : Nat} {n_m1 : Nat} {n_m2 : Nat} {n_s0 : Nat} {n_s1 : Nat} {n_s2 : Nat} {v_keys : Nat → Int32} {v_asFound : Nat → Int32} {v_found : Int32} {v_turns : Int32} {v_places : Int32} {p_keys : Nat → Int32} {p_asFound : Nat → Int32} {p_found : Int32} {p_turns : Int32} {p_places : Int32} {i_sort : Nat → Int32} {i_howOften : Nat → Int32} {i_sorts : Int32} {i_moves : Int32} {n_uq : Nat} {n_u : Nat} {u_leasts : Nat → Int32} {u_howMany : Int32} {u_known : Int32} {n_wq : Nat} {n_w : Nat} {w_leasts : Nat → Int32} {w_howMany : Int32} {w_known : Int32} {t_signs : Nat → Int32} {t_length : Int32} {t_whole : Int32} {t_begins : Nat → Int32} {t_ends : Nat → Int32} {r_sorts : Nat → Int32} {r_numbers : Nat → Int32} {r_length : Int32} {wo : va_W} {res : Int32} (hf : f_X9_isGenerator l1 f_howManyGenerators = some res) : MX l yX9_isGenerator cX9_isGenerator 2 (some .boolean) rm_X9_isGenerator G ((xb G h x_hasImage f_places f_kinds f_weights f_howManyGenerators f_generators f_racks f_howManySeen f_seenFirst f_seenSecond f_seenIs f_seenPlaces f_howManyEvents f_eventWhat f_eventNumber g_places g_kinds g_weights g_howManyGenerators g_generators g_racks g_howManySeen g_seenFirst g_seenSecond g_seenIs g_seenPlaces g_howManyEvents g_eventWhat g_eventNumber n_m0 n_m1 n_m2 n_s0 n_s1 n_s2 v_keys v_asFound v_found v_turns v_places p_keys p_asFound p_found p_turns p_places i_sort i_howOften i_sorts i_moves n_uq n_u u_leasts u_howMany u_known n_wq n_w w_leasts w_howMany w_known t_signs t_length t_whole t_begins t_ends r_sorts r_numbers r_length) ++ wo) [.ref (h 0), .int l1] ((xb G h x_hasImage f_places f_kinds f_weights f_howManyGenerators f_generators f_racks f_howManySeen f_seenFirst f_seenSecond f_seenIs f_seenPlaces f_howManyEvents f_eventWhat f_eventNumber g_places g_kinds g_weights g_howManyGenerators g_generators g_racks g_howManySeen g_seenFirst g_seenSecond g_seenIs g_seenPlaces g_howManyEvents g_eventWhat g_eventNumber n_m0 n_m1 n_m2 n_s0 n_s1 n_s2 v_keys v_asFound v_found v_turns v_places p_keys p_asFound p_found p_turns p_places i_sort i_howOften i_sorts i_moves n_uq n_u u_leasts u_howMany u_known n_wq n_w w_leasts w_howMany w_known t_signs t_length t_whole t_begins t_ends r_sorts r_numbers r_length) ++ wo) (some (.int res)) 0 0 := by
  refine MX.of (plainFor_of_name (by decide)) (Nat.le_of_ble_eq_true rfl) ?_
  intro p e s m below meth c A X E hI ls hl
  obtain ⟨hx, hb, hml, hown, hts, hr, hlk⟩ := id X
  have hl : lv_has ls 2 [(0, .ref (h 0)), (1, .int l1)] := hl
  unfold f_X9_isGenerator at hf
  refine lv_iload_n (pc := 0) hx hb dX9_isGenerator_0 rfl (lv_at hl 1 rfl) ?_
  refine lv_if_lt (pc := 1) (tgt := 24) hx hb dX9_isGenerator_1 (by decide) (fun c1 => ?_) (fun c1 => ?_)
  · have hf := q_ip c1 hf
    refine lv_iconst (pc := 24) (v := 0) hx hb dX9_isGenerator_24 (by decide) ?_
    obtain rfl := Option.some.inj hf
    exact x_zret X hI (Or.inl rfl) dX9_isGenerator_25
  · have hf := q_in c1 hf
    refine lv_iload_n (pc := 4) hx hb dX9_isGenerator_4 rfl (lv_at hl 1 rfl) ?_
    refine lv_aload_n (pc := 5) hx hb dX9_isGenerator_5 rfl (lv_at hl 0 rfl) ?_
    refine x_get (pc := 6) X E hI inX9 0 rfl rfl 0 (by decide) tw_2_7 rfl dX9_isGenerator_6 ?_
    refine x_get (pc := 9) X E hI inX3 1 rfl rfl 3 (by decide) tw_1_40 rfl dX9_isGenerator_9 ?_
    refine lv_icmp_ge (pc := 12) (tgt := 24) hx hb dX9_isGenerator_12 (by decide) (fun c2 => ?_) (fun c2 => ?_)
    · have hf := q_ip c2 hf
      refine lv_iconst (pc := 24) (v := 0) hx hb dX9_isGenerator_24 (by decide) ?_
      obtain rfl := Option.some.inj hf
      exact x_zret X hI (Or.inl rfl) dX9_isGenerator_25
    · have hf := q_in c2 hf
      refine lv_iload_n (pc := 15) hx hb dX9_isGenerator_15 rfl (lv_at hl 1 rfl) ?_
      refine lv_iconst (pc := 16) (v := 4) hx hb dX9_isGenerator_16 (by decide) ?_
      refine lv_icmp_ge (pc := 17) (tgt := 24) hx hb dX9_isGenerator_17 (by decide) (fun c3 => ?_) (fun c3 => ?_)
      · have hf := q_ip c3 hf
        refine lv_iconst (pc := 24) (v := 0) hx hb dX9_isGenerator_24 (by decide) ?_
        obtain rfl := Option.some.inj hf
        exact x_zret X hI (Or.inl rfl) dX9_isGenerator_25
      · have hf := q_in c3 hf
        refine lv_iconst (pc := 20) (v := 1) hx hb dX9_isGenerator_20 (by decide) ?_
        refine lv_goto (pc := 21) (tgt := 25) hx hb dX9_isGenerator_21 (by decide) ?_
        obtain rfl := Option.some.inj hf
        exact x_zret X hI (Or.inr rfl) dX9_isGenerator_25

abbrev rm_X9_packedPainting : Room := { frames := 2, cells := 0, slots := 0, locals := 48 }
set_option maxHeartbeats 4000000 in
set_option maxRecDepth 100000 in
theorem c_X9_packedPainting (l : Launch) (G : GX) (h : Nat → Nat) {l1 : Int32} {f_places : Int32} {f_kinds : Int32} {x_hasImage : Int32} {f_weights : Nat → Int32} {f_howManyGenerators : Int32} {f_generators : Nat → Int32} {f_racks : Nat → Int32} {f_howManySeen : Int32} {f_seenFirst : Nat → Int32} {f_seenSecond : Nat → Int32} {f_seenIs : Nat → Int32} {f_seenPlaces : Nat → Int32} {f_howManyEvents : Int32} {f_eventWhat : Nat → Int32} {f_eventNumber : Nat → Int32} {g_places : Int32} {g_kinds : Int32} {g_weights : Nat → Int32} {g_howManyGenerators : Int32} {g_generators : Nat → Int32} {g_racks : Nat → Int32} {g_howManySeen : Int32} {g_seenFirst : Nat → Int32} {g_seenSecond : Nat → Int32} {g_seenIs : Nat → Int32} {g_seenPlaces : Nat → Int32} {g_howManyEvents : Int32} {g_eventWhat : Nat → Int32} {g_eventNumber : Nat → Int32} {n_m0 : Nat} {n_m1 : Nat} {n_m2 : Nat} {n_s0 : Nat} {n_s1 : Nat} {n_s2 : Nat} {v_keys : Nat → Int32} {v_asFound : Nat → Int32} {v_found : Int32} {v_turns : Int32} {v_places : Int32} {p_keys : Nat → Int32} {p_asFound : Nat → Int32} {p_found : Int32} {p_turns : Int32} {p_places : Int32} {i_sort : Nat → Int32} {i_howOften : Nat → Int32} {i_sorts : Int32} {i_moves : Int32} {n_uq : Nat} {n_u : Nat} {u_leasts : Nat → Int32} {u_howMany : Int32} {u_known : Int32} {n_wq : Nat} {n_w : Nat} {w_leasts : Nat → Int32} {w_howMany : Int32} {w_known : Int32} {t_signs : Nat → Int32} {t_length : Int32} {t_whole : Int32} {t_begins : Nat → Int32} {t_ends : Nat → Int32} {r_sorts : Nat → Int32} {r_numbers : Nat → Int32} {r_length : Int32} {wo : va_W} {res : Int32} (hf : f_X9_packedPainting l1 f_places f_kinds = some res) : MX l yX9_packedPainting cX9_packedPainting 2 (some .int) rm_X9_packedPainting G ((xb G h x_hasImage f_places f_kinds f_weights f_howManyGenerators f_generators f_racks f_howManySeen f_seenFirst f_seenSecond f_seenIs f_seenPlaces f_howManyEvents f_eventWhat f_eventNumber g_places g_kinds g_weights g_howManyGenerators g_generators g_racks g_howManySeen g_seenFirst g_seenSecond g_seenIs g_seenPlaces g_howManyEvents g_eventWhat g_eventNumber n_m0 n_m1 n_m2 n_s0 n_s1 n_s2 v_keys v_asFound v_found v_turns v_places p_keys p_asFound p_found p_turns p_places i_sort i_howOften i_sorts i_moves n_uq n_u u_leasts u_howMany u_known n_wq n_w w_leasts w_howMany w_known t_signs t_length t_whole t_begins t_ends r_sorts r_numbers r_length) ++ wo) [.ref (h 0), .int l1] ((xb G h x_hasImage f_places f_kinds f_weights f_howManyGenerators f_generators f_racks f_howManySeen f_seenFirst f_seenSecond f_seenIs f_seenPlaces f_howManyEvents f_eventWhat f_eventNumber g_places g_kinds g_weights g_howManyGenerators g_generators g_racks g_howManySeen g_seenFirst g_seenSecond g_seenIs g_seenPlaces g_howManyEvents g_eventWhat g_eventNumber n_m0 n_m1 n_m2 n_s0 n_s1 n_s2 v_keys v_asFound v_found v_turns v_places p_keys p_asFound p_found p_turns p_places i_sort i_howOften i_sorts i_moves n_uq n_u u_leasts u_howMany u_known n_wq n_w w_leasts w_howMany w_known t_signs t_length t_whole t_begins t_ends r_sorts r_numbers r_length) ++ wo) (some (.int res)) 0 0 := by
  refine MX.of (plainFor_of_name (by decide)) (Nat.le_of_ble_eq_true rfl) ?_
  intro p e s m below meth c A X E hI ls hl
  obtain ⟨hx, hb, hml, hown, hts, hr, hlk⟩ := id X
  have hl : lv_has ls 2 [(0, .ref (h 0)), (1, .int l1)] := hl
  unfold f_X9_packedPainting at hf
  refine lv_iload_n (pc := 0) hx hb dX9_packedPainting_0 rfl (lv_at hl 1 rfl) ?_
  refine lv_aload_n (pc := 1) hx hb dX9_packedPainting_1 rfl (lv_at hl 0 rfl) ?_
  refine x_get (pc := 2) X E hI inX9 0 rfl rfl 0 (by decide) tw_2_7 rfl dX9_packedPainting_2 ?_
  refine x_get (pc := 5) X E hI inX3 1 rfl rfl 0 (by decide) tw_1_35 rfl dX9_packedPainting_5 ?_
  refine lv_iconst (pc := 8) (v := 0) hx hb dX9_packedPainting_8 (by decide) ?_
  refine lv_aload_n (pc := 9) hx hb dX9_packedPainting_9 rfl (lv_at hl 0 rfl) ?_
  refine x_get (pc := 10) X E hI inX9 0 rfl rfl 0 (by decide) tw_2_7 rfl dX9_packedPainting_10 ?_
  refine x_get (pc := 13) X E hI inX3 1 rfl rfl 1 (by decide) tw_1_37 rfl dX9_packedPainting_13 ?_
  obtain ⟨t1, e1, hf⟩ := q_ob hf
  refine x_cSn (pc := 16) (st1 := [.int t1]) X E hI (c_X2_packed l G e1) ks_X9_322 hd_X2_packed ⟨rfl, rfl⟩ (by decide) rfl hl.1 rfl (Nat.le_of_ble_eq_true rfl) dX9_packedPainting_16 ⟨Nat.le_of_ble_eq_true rfl, Nat.le_of_ble_eq_true rfl⟩ rfl (fun H locs hI => ?_)
  obtain rfl := Option.some.inj hf
  exact x_iret X hI dX9_packedPainting_19

abbrev rm_X9_paintingNumber : Room := { frames := 2, cells := 0, slots := 0, locals := 45 }
set_option maxHeartbeats 4000000 in
set_option maxRecDepth 100000 in
theorem c_X9_paintingNumber (l : Launch) (G : GX) (h : Nat → Nat) {l1 : Int32} {f_places : Int32} {x_hasImage : Int32} {f_kinds : Int32} {f_weights : Nat → Int32} {f_howManyGenerators : Int32} {f_generators : Nat → Int32} {f_racks : Nat → Int32} {f_howManySeen : Int32} {f_seenFirst : Nat → Int32} {f_seenSecond : Nat → Int32} {f_seenIs : Nat → Int32} {f_seenPlaces : Nat → Int32} {f_howManyEvents : Int32} {f_eventWhat : Nat → Int32} {f_eventNumber : Nat → Int32} {g_places : Int32} {g_kinds : Int32} {g_weights : Nat → Int32} {g_howManyGenerators : Int32} {g_generators : Nat → Int32} {g_racks : Nat → Int32} {g_howManySeen : Int32} {g_seenFirst : Nat → Int32} {g_seenSecond : Nat → Int32} {g_seenIs : Nat → Int32} {g_seenPlaces : Nat → Int32} {g_howManyEvents : Int32} {g_eventWhat : Nat → Int32} {g_eventNumber : Nat → Int32} {n_m0 : Nat} {n_m1 : Nat} {n_m2 : Nat} {n_s0 : Nat} {n_s1 : Nat} {n_s2 : Nat} {v_keys : Nat → Int32} {v_asFound : Nat → Int32} {v_found : Int32} {v_turns : Int32} {v_places : Int32} {p_keys : Nat → Int32} {p_asFound : Nat → Int32} {p_found : Int32} {p_turns : Int32} {p_places : Int32} {i_sort : Nat → Int32} {i_howOften : Nat → Int32} {i_sorts : Int32} {i_moves : Int32} {n_uq : Nat} {n_u : Nat} {u_leasts : Nat → Int32} {u_howMany : Int32} {u_known : Int32} {n_wq : Nat} {n_w : Nat} {w_leasts : Nat → Int32} {w_howMany : Int32} {w_known : Int32} {t_signs : Nat → Int32} {t_length : Int32} {t_whole : Int32} {t_begins : Nat → Int32} {t_ends : Nat → Int32} {r_sorts : Nat → Int32} {r_numbers : Nat → Int32} {r_length : Int32} {wo : va_W} {res : Int32} (hf : f_X9_paintingNumber l1 f_places = some res) : MX l yX9_paintingNumber cX9_paintingNumber 2 (some .int) rm_X9_paintingNumber G ((xb G h x_hasImage f_places f_kinds f_weights f_howManyGenerators f_generators f_racks f_howManySeen f_seenFirst f_seenSecond f_seenIs f_seenPlaces f_howManyEvents f_eventWhat f_eventNumber g_places g_kinds g_weights g_howManyGenerators g_generators g_racks g_howManySeen g_seenFirst g_seenSecond g_seenIs g_seenPlaces g_howManyEvents g_eventWhat g_eventNumber n_m0 n_m1 n_m2 n_s0 n_s1 n_s2 v_keys v_asFound v_found v_turns v_places p_keys p_asFound p_found p_turns p_places i_sort i_howOften i_sorts i_moves n_uq n_u u_leasts u_howMany u_known n_wq n_w w_leasts w_howMany w_known t_signs t_length t_whole t_begins t_ends r_sorts r_numbers r_length) ++ wo) [.ref (h 0), .int l1] ((xb G h x_hasImage f_places f_kinds f_weights f_howManyGenerators f_generators f_racks f_howManySeen f_seenFirst f_seenSecond f_seenIs f_seenPlaces f_howManyEvents f_eventWhat f_eventNumber g_places g_kinds g_weights g_howManyGenerators g_generators g_racks g_howManySeen g_seenFirst g_seenSecond g_seenIs g_seenPlaces g_howManyEvents g_eventWhat g_eventNumber n_m0 n_m1 n_m2 n_s0 n_s1 n_s2 v_keys v_asFound v_found v_turns v_places p_keys p_asFound p_found p_turns p_places i_sort i_howOften i_sorts i_moves n_uq n_u u_leasts u_howMany u_known n_wq n_w w_leasts w_howMany w_known t_signs t_length t_whole t_begins t_ends r_sorts r_numbers r_length) ++ wo) (some (.int res)) 0 0 := by
  refine MX.of (plainFor_of_name (by decide)) (Nat.le_of_ble_eq_true rfl) ?_
  intro p e s m below meth c A X E hI ls hl
  obtain ⟨hx, hb, hml, hown, hts, hr, hlk⟩ := id X
  have hl : lv_has ls 2 [(0, .ref (h 0)), (1, .int l1)] := hl
  unfold f_X9_paintingNumber at hf
  refine lv_iload_n (pc := 0) hx hb dX9_paintingNumber_0 rfl (lv_at hl 1 rfl) ?_
  refine lv_aload_n (pc := 1) hx hb dX9_paintingNumber_1 rfl (lv_at hl 0 rfl) ?_
  refine x_get (pc := 2) X E hI inX9 0 rfl rfl 0 (by decide) tw_2_7 rfl dX9_paintingNumber_2 ?_
  refine x_get (pc := 5) X E hI inX3 1 rfl rfl 0 (by decide) tw_1_35 rfl dX9_paintingNumber_5 ?_
  refine lv_iconst (pc := 8) (v := 0) hx hb dX9_paintingNumber_8 (by decide) ?_
  obtain ⟨t1, e1, hf⟩ := q_ob hf
  refine x_cSn (pc := 9) (st1 := [.int t1]) X E hI (c_X2_number l G e1) ks_X9_326 hd_X2_number ⟨rfl, rfl⟩ (by decide) rfl hl.1 rfl (Nat.le_of_ble_eq_true rfl) dX9_paintingNumber_9 ⟨Nat.le_of_ble_eq_true rfl, Nat.le_of_ble_eq_true rfl⟩ rfl (fun H locs hI => ?_)
  obtain rfl := Option.some.inj hf
  exact x_iret X hI dX9_paintingNumber_12

abbrev rm_X9_paintings : Room := { frames := 0, cells := 0, slots := 0, locals := 0 }
set_option maxHeartbeats 4000000 in
set_option maxRecDepth 100000 in
theorem k_X9_paintings_L4 {p : Program} {l : Launch} {e : Env} {s : State} {m : MethodId} {args : Array Value} {below : List Frame} {meth : Method} {c : Code} {A : Nat → Prop} {G : GX} {h : Nat → Nat} {x_hasImage : Int32} {f_places : Int32} {f_kinds : Int32} {f_weights : Nat → Int32} {f_howManyGenerators : Int32} {f_generators : Nat → Int32} {f_racks : Nat → Int32} {f_howManySeen : Int32} {f_seenFirst : Nat → Int32} {f_seenSecond : Nat → Int32} {f_seenIs : Nat → Int32} {f_seenPlaces : Nat → Int32} {f_howManyEvents : Int32} {f_eventWhat : Nat → Int32} {f_eventNumber : Nat → Int32} {g_places : Int32} {g_kinds : Int32} {g_weights : Nat → Int32} {g_howManyGenerators : Int32} {g_generators : Nat → Int32} {g_racks : Nat → Int32} {g_howManySeen : Int32} {g_seenFirst : Nat → Int32} {g_seenSecond : Nat → Int32} {g_seenIs : Nat → Int32} {g_seenPlaces : Nat → Int32} {g_howManyEvents : Int32} {g_eventWhat : Nat → Int32} {g_eventNumber : Nat → Int32} {n_m0 : Nat} {n_m1 : Nat} {n_m2 : Nat} {n_s0 : Nat} {n_s1 : Nat} {n_s2 : Nat} {v_keys : Nat → Int32} {v_asFound : Nat → Int32} {v_found : Int32} {v_turns : Int32} {v_places : Int32} {p_keys : Nat → Int32} {p_asFound : Nat → Int32} {p_found : Int32} {p_turns : Int32} {p_places : Int32} {i_sort : Nat → Int32} {i_howOften : Nat → Int32} {i_sorts : Int32} {i_moves : Int32} {n_uq : Nat} {n_u : Nat} {u_leasts : Nat → Int32} {u_howMany : Int32} {u_known : Int32} {n_wq : Nat} {n_w : Nat} {w_leasts : Nat → Int32} {w_howMany : Int32} {w_known : Int32} {t_signs : Nat → Int32} {t_length : Int32} {t_whole : Int32} {t_begins : Nat → Int32} {t_ends : Nat → Int32} {r_sorts : Nat → Int32} {r_numbers : Nat → Int32} {r_length : Int32} {wo : va_W} {K : Int32 → Int32 → Option (Int32)} {res : Int32} (X : CX RX9 cX9_paintings 3 (some .int) p s m args meth c) (E : EX G A s)
    (hK : ∀ (l1 : Int32) (l2 : Int32) (H : Heap) (locs : List Loc) (ls : Array Slot), IN A G ((xb G h x_hasImage f_places f_kinds f_weights f_howManyGenerators f_generators f_racks f_howManySeen f_seenFirst f_seenSecond f_seenIs f_seenPlaces f_howManyEvents f_eventWhat f_eventNumber g_places g_kinds g_weights g_howManyGenerators g_generators g_racks g_howManySeen g_seenFirst g_seenSecond g_seenIs g_seenPlaces g_howManyEvents g_eventWhat g_eventNumber n_m0 n_m1 n_m2 n_s0 n_s1 n_s2 v_keys v_asFound v_found v_turns v_places p_keys p_asFound p_found p_turns p_places i_sort i_howOften i_sorts i_moves n_uq n_u u_leasts u_howMany u_known n_wq n_w w_leasts w_howMany w_known t_signs t_length t_whole t_begins t_ends r_sorts r_numbers r_length) ++ wo) s H locs → lv_has ls 3 [(0, .ref (h 0)), (1, .int l1), (2, .int l2)] → K l1 l2 = some res → W p l e rm_X9_paintings s m args below meth c H locs 0 0 (MQ below (QX G A ((xb G h x_hasImage f_places f_kinds f_weights f_howManyGenerators f_generators f_racks f_howManySeen f_seenFirst f_seenSecond f_seenIs f_seenPlaces f_howManyEvents f_eventWhat f_eventNumber g_places g_kinds g_weights g_howManyGenerators g_generators g_racks g_howManySeen g_seenFirst g_seenSecond g_seenIs g_seenPlaces g_howManyEvents g_eventWhat g_eventNumber n_m0 n_m1 n_m2 n_s0 n_s1 n_s2 v_keys v_asFound v_found v_turns v_places p_keys p_asFound p_found p_turns p_places i_sort i_howOften i_sorts i_moves n_uq n_u u_leasts u_howMany u_known n_wq n_w w_leasts w_howMany w_known t_signs t_length t_whole t_begins t_ends r_sorts r_numbers r_length) ++ wo) (some (.int res))) args s 0 0 A) (F0 m 31 ls [])) :
    ∀ {k : Nat} {l1 : Int32} {l2 : Int32} {H : Heap} {locs : List Loc} {ls : Array Slot}, IN A G ((xb G h x_hasImage f_places f_kinds f_weights f_howManyGenerators f_generators f_racks f_howManySeen f_seenFirst f_seenSecond f_seenIs f_seenPlaces f_howManyEvents f_eventWhat f_eventNumber g_places g_kinds g_weights g_howManyGenerators g_generators g_racks g_howManySeen g_seenFirst g_seenSecond g_seenIs g_seenPlaces g_howManyEvents g_eventWhat g_eventNumber n_m0 n_m1 n_m2 n_s0 n_s1 n_s2 v_keys v_asFound v_found v_turns v_places p_keys p_asFound p_found p_turns p_places i_sort i_howOften i_sorts i_moves n_uq n_u u_leasts u_howMany u_known n_wq n_w w_leasts w_howMany w_known t_signs t_length t_whole t_begins t_ends r_sorts r_numbers r_length) ++ wo) s H locs → lv_has ls 3 [(0, .ref (h 0)), (1, .int l1), (2, .int l2)] → f_X9_paintings_L4 f_places f_kinds K k l1 l2 = some res → W p l e rm_X9_paintings s m args below meth c H locs 0 0 (MQ below (QX G A ((xb G h x_hasImage f_places f_kinds f_weights f_howManyGenerators f_generators f_racks f_howManySeen f_seenFirst f_seenSecond f_seenIs f_seenPlaces f_howManyEvents f_eventWhat f_eventNumber g_places g_kinds g_weights g_howManyGenerators g_generators g_racks g_howManySeen g_seenFirst g_seenSecond g_seenIs g_seenPlaces g_howManyEvents g_eventWhat g_eventNumber n_m0 n_m1 n_m2 n_s0 n_s1 n_s2 v_keys v_asFound v_found v_turns v_places p_keys p_asFound p_found p_turns p_places i_sort i_howOften i_sorts i_moves n_uq n_u u_leasts u_howMany u_known n_wq n_w w_leasts w_howMany w_known t_signs t_length t_whole t_begins t_ends r_sorts r_numbers r_length) ++ wo) (some (.int res))) args s 0 0 A) (F0 m 4 ls []) := by
  obtain ⟨hx, hb, hml, hown, hts, hr, hlk⟩ := id X
  intro k
  induction k with
  | zero => intro l1 l2 H locs ls hI hl hf; exact nomatch (show none = some res from hf)
  | succ k ih =>
    intro l1 l2 H locs ls hI hl hf
    rw [f_X9_paintings_L4] at hf
    refine lv_iload_n (pc := 4) hx hb dX9_paintings_4 rfl (lv_at hl 2 rfl) ?_
    refine lv_aload_n (pc := 5) hx hb dX9_paintings_5 rfl (lv_at hl 0 rfl) ?_
    refine x_get (pc := 6) X E hI inX9 0 rfl rfl 0 (by decide) tw_2_7 rfl dX9_paintings_6 ?_
    refine x_get (pc := 9) X E hI inX3 1 rfl rfl 0 (by decide) tw_1_35 rfl dX9_paintings_9 ?_
    refine lv_icmp_ge (pc := 12) (tgt := 31) hx hb dX9_paintings_12 (by decide) (fun c1 => ?_) (fun c1 => ?_)
    · have hf := q_ip c1 hf
      exact hK _ _ _ _ _ hI (lv_sub hl [0, 1, 2] rfl) hf
    · have hf := q_in c1 hf
      refine lv_iload_n (pc := 15) hx hb dX9_paintings_15 rfl (lv_at hl 1 rfl) ?_
      refine lv_aload_n (pc := 16) hx hb dX9_paintings_16 rfl (lv_at hl 0 rfl) ?_
      refine x_get (pc := 17) X E hI inX9 0 rfl rfl 0 (by decide) tw_2_7 rfl dX9_paintings_17 ?_
      refine x_get (pc := 20) X E hI inX3 1 rfl rfl 1 (by decide) tw_1_37 rfl dX9_paintings_20 ?_
      refine lv_imul (pc := 23) hx hb dX9_paintings_23 ?_
      refine lv_istore_n (pc := 24) (lv' := [(1, .int (l1 * f_kinds)), (0, .ref (h 0)), (2, .int l2)]) hx hb dX9_paintings_24 rfl hl (by decide) rfl (fun ls hl => ?_)
      refine lv_iinc (pc := 25) (v := l2 + 1) (lv' := [(2, .int (l2 + 1)), (1, .int (l1 * f_kinds)), (0, .ref (h 0))]) hx hb dX9_paintings_25 hl (k := 2) rfl rfl (by decide) rfl (fun ls hl => ?_)
      refine lv_goto (pc := 28) (tgt := 4) hx hb dX9_paintings_28 (by decide) ?_
      exact ih hI (lv_sub hl [2, 1, 0] rfl) hf

set_option maxHeartbeats 4000000 in
set_option maxRecDepth 100000 in
theorem c_X9_paintings (l : Launch) (G : GX) (h : Nat → Nat) {f_places : Int32} {f_kinds : Int32} {x_hasImage : Int32} {f_weights : Nat → Int32} {f_howManyGenerators : Int32} {f_generators : Nat → Int32} {f_racks : Nat → Int32} {f_howManySeen : Int32} {f_seenFirst : Nat → Int32} {f_seenSecond : Nat → Int32} {f_seenIs : Nat → Int32} {f_seenPlaces : Nat → Int32} {f_howManyEvents : Int32} {f_eventWhat : Nat → Int32} {f_eventNumber : Nat → Int32} {g_places : Int32} {g_kinds : Int32} {g_weights : Nat → Int32} {g_howManyGenerators : Int32} {g_generators : Nat → Int32} {g_racks : Nat → Int32} {g_howManySeen : Int32} {g_seenFirst : Nat → Int32} {g_seenSecond : Nat → Int32} {g_seenIs : Nat → Int32} {g_seenPlaces : Nat → Int32} {g_howManyEvents : Int32} {g_eventWhat : Nat → Int32} {g_eventNumber : Nat → Int32} {n_m0 : Nat} {n_m1 : Nat} {n_m2 : Nat} {n_s0 : Nat} {n_s1 : Nat} {n_s2 : Nat} {v_keys : Nat → Int32} {v_asFound : Nat → Int32} {v_found : Int32} {v_turns : Int32} {v_places : Int32} {p_keys : Nat → Int32} {p_asFound : Nat → Int32} {p_found : Int32} {p_turns : Int32} {p_places : Int32} {i_sort : Nat → Int32} {i_howOften : Nat → Int32} {i_sorts : Int32} {i_moves : Int32} {n_uq : Nat} {n_u : Nat} {u_leasts : Nat → Int32} {u_howMany : Int32} {u_known : Int32} {n_wq : Nat} {n_w : Nat} {w_leasts : Nat → Int32} {w_howMany : Int32} {w_known : Int32} {t_signs : Nat → Int32} {t_length : Int32} {t_whole : Int32} {t_begins : Nat → Int32} {t_ends : Nat → Int32} {r_sorts : Nat → Int32} {r_numbers : Nat → Int32} {r_length : Int32} {wo : va_W} {res : Int32} (hf : f_X9_paintings f_places f_kinds = some res) : MX l yX9_paintings cX9_paintings 3 (some .int) rm_X9_paintings G ((xb G h x_hasImage f_places f_kinds f_weights f_howManyGenerators f_generators f_racks f_howManySeen f_seenFirst f_seenSecond f_seenIs f_seenPlaces f_howManyEvents f_eventWhat f_eventNumber g_places g_kinds g_weights g_howManyGenerators g_generators g_racks g_howManySeen g_seenFirst g_seenSecond g_seenIs g_seenPlaces g_howManyEvents g_eventWhat g_eventNumber n_m0 n_m1 n_m2 n_s0 n_s1 n_s2 v_keys v_asFound v_found v_turns v_places p_keys p_asFound p_found p_turns p_places i_sort i_howOften i_sorts i_moves n_uq n_u u_leasts u_howMany u_known n_wq n_w w_leasts w_howMany w_known t_signs t_length t_whole t_begins t_ends r_sorts r_numbers r_length) ++ wo) [.ref (h 0)] ((xb G h x_hasImage f_places f_kinds f_weights f_howManyGenerators f_generators f_racks f_howManySeen f_seenFirst f_seenSecond f_seenIs f_seenPlaces f_howManyEvents f_eventWhat f_eventNumber g_places g_kinds g_weights g_howManyGenerators g_generators g_racks g_howManySeen g_seenFirst g_seenSecond g_seenIs g_seenPlaces g_howManyEvents g_eventWhat g_eventNumber n_m0 n_m1 n_m2 n_s0 n_s1 n_s2 v_keys v_asFound v_found v_turns v_places p_keys p_asFound p_found p_turns p_places i_sort i_howOften i_sorts i_moves n_uq n_u u_leasts u_howMany u_known n_wq n_w w_leasts w_howMany w_known t_signs t_length t_whole t_begins t_ends r_sorts r_numbers r_length) ++ wo) (some (.int res)) 0 0 := by
  refine MX.of (plainFor_of_name (by decide)) (Nat.le_of_ble_eq_true rfl) ?_
  intro p e s m below meth c A X E hI ls hl
  obtain ⟨hx, hb, hml, hown, hts, hr, hlk⟩ := id X
  have hl : lv_has ls 3 [(0, .ref (h 0))] := hl
  unfold f_X9_paintings at hf
  refine lv_iconst (pc := 0) (v := 1) hx hb dX9_paintings_0 (by decide) ?_
  refine lv_istore_n (pc := 1) (lv' := [(1, .int 1), (0, .ref (h 0))]) hx hb dX9_paintings_1 rfl hl (by decide) rfl (fun ls hl => ?_)
  refine lv_iconst (pc := 2) (v := 0) hx hb dX9_paintings_2 (by decide) ?_
  refine lv_istore_n (pc := 3) (lv' := [(2, .int 0), (1, .int 1), (0, .ref (h 0))]) hx hb dX9_paintings_3 rfl hl (by decide) rfl (fun ls hl => ?_)
  refine k_X9_paintings_L4 X E (fun l1_1 l2_1 H locs ls hI hl hf => ?_) hI (lv_sub hl [2, 1, 0] rfl) hf
  refine lv_iload_n (pc := 31) hx hb dX9_paintings_31 rfl (lv_at hl 1 rfl) ?_
  obtain rfl := Option.some.inj hf
  exact x_iret X hI dX9_paintings_32

abbrev rm_X9_howManyClasses : Room := { frames := 3, cells := 0, slots := 0, locals := 85 }
set_option maxHeartbeats 4000000 in
set_option maxRecDepth 100000 in
theorem c_X9_howManyClasses (l : Launch) (G : GX) (h : Nat → Nat) {l1 : Int32} {f_kinds : Int32} {v_keys : Nat → Int32} {v_found : Int32} {v_turns : Int32} {v_places : Int32} {i_sort : Nat → Int32} {i_howOften : Nat → Int32} {i_sorts : Int32} {i_moves : Int32} {x_hasImage : Int32} {f_places : Int32} {f_weights : Nat → Int32} {f_howManyGenerators : Int32} {f_generators : Nat → Int32} {f_racks : Nat → Int32} {f_howManySeen : Int32} {f_seenFirst : Nat → Int32} {f_seenSecond : Nat → Int32} {f_seenIs : Nat → Int32} {f_seenPlaces : Nat → Int32} {f_howManyEvents : Int32} {f_eventWhat : Nat → Int32} {f_eventNumber : Nat → Int32} {g_places : Int32} {g_kinds : Int32} {g_weights : Nat → Int32} {g_howManyGenerators : Int32} {g_generators : Nat → Int32} {g_racks : Nat → Int32} {g_howManySeen : Int32} {g_seenFirst : Nat → Int32} {g_seenSecond : Nat → Int32} {g_seenIs : Nat → Int32} {g_seenPlaces : Nat → Int32} {g_howManyEvents : Int32} {g_eventWhat : Nat → Int32} {g_eventNumber : Nat → Int32} {n_m0 : Nat} {n_m1 : Nat} {n_m2 : Nat} {n_s0 : Nat} {n_s1 : Nat} {n_s2 : Nat} {v_asFound : Nat → Int32} {p_keys : Nat → Int32} {p_asFound : Nat → Int32} {p_found : Int32} {p_turns : Int32} {p_places : Int32} {n_uq : Nat} {n_u : Nat} {u_leasts : Nat → Int32} {u_howMany : Int32} {u_known : Int32} {n_wq : Nat} {n_w : Nat} {w_leasts : Nat → Int32} {w_howMany : Int32} {w_known : Int32} {t_signs : Nat → Int32} {t_length : Int32} {t_whole : Int32} {t_begins : Nat → Int32} {t_ends : Nat → Int32} {r_sorts : Nat → Int32} {r_numbers : Nat → Int32} {r_length : Int32} {wo : va_W} {res : Int32 × (Nat → Int32) × (Nat → Int32) × Int32 × Int32} (hf : f_X9_howManyClasses l1 f_kinds v_keys v_found v_turns v_places i_sort i_howOften i_sorts i_moves = some res) : MX l yX9_howManyClasses cX9_howManyClasses 2 (some .int) rm_X9_howManyClasses G ((xb G h x_hasImage f_places f_kinds f_weights f_howManyGenerators f_generators f_racks f_howManySeen f_seenFirst f_seenSecond f_seenIs f_seenPlaces f_howManyEvents f_eventWhat f_eventNumber g_places g_kinds g_weights g_howManyGenerators g_generators g_racks g_howManySeen g_seenFirst g_seenSecond g_seenIs g_seenPlaces g_howManyEvents g_eventWhat g_eventNumber n_m0 n_m1 n_m2 n_s0 n_s1 n_s2 v_keys v_asFound v_found v_turns v_places p_keys p_asFound p_found p_turns p_places i_sort i_howOften i_sorts i_moves n_uq n_u u_leasts u_howMany u_known n_wq n_w w_leasts w_howMany w_known t_signs t_length t_whole t_begins t_ends r_sorts r_numbers r_length) ++ wo) [.ref (h 0), .int l1] ((xb G h x_hasImage f_places f_kinds f_weights f_howManyGenerators f_generators f_racks f_howManySeen f_seenFirst f_seenSecond f_seenIs f_seenPlaces f_howManyEvents f_eventWhat f_eventNumber g_places g_kinds g_weights g_howManyGenerators g_generators g_racks g_howManySeen g_seenFirst g_seenSecond g_seenIs g_seenPlaces g_howManyEvents g_eventWhat g_eventNumber n_m0 n_m1 n_m2 n_s0 n_s1 n_s2 v_keys v_asFound v_found v_turns v_places p_keys p_asFound p_found p_turns p_places res.2.1 res.2.2.1 res.2.2.2.1 res.2.2.2.2 n_uq n_u u_leasts u_howMany u_known n_wq n_w w_leasts w_howMany w_known t_signs t_length t_whole t_begins t_ends r_sorts r_numbers r_length) ++ wo) (some (.int res.1)) 0 0 := by
  refine MX.of (plainFor_of_name (by decide)) (Nat.le_of_ble_eq_true rfl) ?_
  intro p e s m below meth c A X E hI ls hl
  obtain ⟨hx, hb, hml, hown, hts, hr, hlk⟩ := id X
  have hl : lv_has ls 2 [(0, .ref (h 0)), (1, .int l1)] := hl
  unfold f_X9_howManyClasses at hf
  refine lv_aload_n (pc := 0) hx hb dX9_howManyClasses_0 rfl (lv_at hl 0 rfl) ?_
  refine x_get (pc := 1) X E hI inX9 0 rfl rfl 5 (by decide) tw_2_12 rfl dX9_howManyClasses_1 ?_
  refine lv_aload_n (pc := 4) hx hb dX9_howManyClasses_4 rfl (lv_at hl 0 rfl) ?_
  refine x_get (pc := 5) X E hI inX9 0 rfl rfl 3 (by decide) tw_2_10 rfl dX9_howManyClasses_5 ?_
  refine lv_iload_n (pc := 8) hx hb dX9_howManyClasses_8 rfl (lv_at hl 1 rfl) ?_
  obtain ⟨t1, e1, hf⟩ := q_ob hf
  refine x_cVt (pc := 9) (st1 := []) (w2 := (xb G h x_hasImage f_places f_kinds f_weights f_howManyGenerators f_generators f_racks f_howManySeen f_seenFirst f_seenSecond f_seenIs f_seenPlaces f_howManyEvents f_eventWhat f_eventNumber g_places g_kinds g_weights g_howManyGenerators g_generators g_racks g_howManySeen g_seenFirst g_seenSecond g_seenIs g_seenPlaces g_howManyEvents g_eventWhat g_eventNumber n_m0 n_m1 n_m2 n_s0 n_s1 n_s2 v_keys v_asFound v_found v_turns v_places p_keys p_asFound p_found p_turns p_places t1.1 t1.2.1 t1.2.2.1 t1.2.2.2 n_uq n_u u_leasts u_howMany u_known n_wq n_w w_leasts w_howMany w_known t_signs t_length t_whole t_begins t_ends r_sorts r_numbers r_length)) X E hI (c_X4_fill l G (h 21) (h 22) (h 23) n_m0 n_m1 n_m2 e1) kv_X9_158 hd_X4_fill ⟨rfl, rfl⟩ (by decide) pt_xb_ivw_0 pt_xb_ivw_0q 0 rfl rfl rfl rfl hl.1 rfl (Nat.le_of_ble_eq_true rfl) dX9_howManyClasses_9 ⟨Nat.le_of_ble_eq_true rfl, Nat.le_of_ble_eq_true rfl⟩ rfl (fun H locs hI => ?_)
  refine lv_aload_n (pc := 12) hx hb dX9_howManyClasses_12 rfl (lv_at hl 0 rfl) ?_
  refine x_get (pc := 13) X E hI inX9 0 rfl rfl 5 (by decide) tw_2_12 rfl dX9_howManyClasses_13 ?_
  refine lv_aload_n (pc := 16) hx hb dX9_howManyClasses_16 rfl (lv_at hl 0 rfl) ?_
  refine x_get (pc := 17) X E hI inX9 0 rfl rfl 0 (by decide) tw_2_7 rfl dX9_howManyClasses_17 ?_
  refine x_get (pc := 20) X E hI inX3 1 rfl rfl 1 (by decide) tw_1_37 rfl dX9_howManyClasses_20 ?_
  obtain ⟨t2, e2, hf⟩ := q_ob hf
  refine x_cVt (pc := 23) (st1 := [.long t2]) (w2 := (xb G h x_hasImage f_places f_kinds f_weights f_howManyGenerators f_generators f_racks f_howManySeen f_seenFirst f_seenSecond f_seenIs f_seenPlaces f_howManyEvents f_eventWhat f_eventNumber g_places g_kinds g_weights g_howManyGenerators g_generators g_racks g_howManySeen g_seenFirst g_seenSecond g_seenIs g_seenPlaces g_howManyEvents g_eventWhat g_eventNumber n_m0 n_m1 n_m2 n_s0 n_s1 n_s2 v_keys v_asFound v_found v_turns v_places p_keys p_asFound p_found p_turns p_places t1.1 t1.2.1 t1.2.2.1 t1.2.2.2 n_uq n_u u_leasts u_howMany u_known n_wq n_w w_leasts w_howMany w_known t_signs t_length t_whole t_begins t_ends r_sorts r_numbers r_length)) X E hI (c_X4_classesFor l G (h 21) (h 22) (h 23) e2) kv_X9_178 hd_X4_classesFor ⟨rfl, rfl⟩ (by decide) pt_xb_iw_0 pt_xb_iw_0q 0 rfl rfl rfl rfl hl.1 rfl (Nat.le_of_ble_eq_true rfl) dX9_howManyClasses_23 ⟨Nat.le_of_ble_eq_true rfl, Nat.le_of_ble_eq_true rfl⟩ rfl (fun H locs hI => ?_)
  refine lv_l2i (pc := 26) (v := (t2 : Int64).toInt32) hx hb dX9_howManyClasses_26 rfl ?_
  obtain rfl := Option.some.inj hf
  exact x_iret X hI dX9_howManyClasses_27

abbrev rm_X9_forgetClasses : Room := { frames := 0, cells := 0, slots := 0, locals := 0 }
set_option maxHeartbeats 4000000 in
set_option maxRecDepth 100000 in
theorem c_X9_forgetClasses (l : Launch) (G : GX) (h : Nat → Nat) {u_known : Int32} {w_known : Int32} {x_hasImage : Int32} {f_places : Int32} {f_kinds : Int32} {f_weights : Nat → Int32} {f_howManyGenerators : Int32} {f_generators : Nat → Int32} {f_racks : Nat → Int32} {f_howManySeen : Int32} {f_seenFirst : Nat → Int32} {f_seenSecond : Nat → Int32} {f_seenIs : Nat → Int32} {f_seenPlaces : Nat → Int32} {f_howManyEvents : Int32} {f_eventWhat : Nat → Int32} {f_eventNumber : Nat → Int32} {g_places : Int32} {g_kinds : Int32} {g_weights : Nat → Int32} {g_howManyGenerators : Int32} {g_generators : Nat → Int32} {g_racks : Nat → Int32} {g_howManySeen : Int32} {g_seenFirst : Nat → Int32} {g_seenSecond : Nat → Int32} {g_seenIs : Nat → Int32} {g_seenPlaces : Nat → Int32} {g_howManyEvents : Int32} {g_eventWhat : Nat → Int32} {g_eventNumber : Nat → Int32} {n_m0 : Nat} {n_m1 : Nat} {n_m2 : Nat} {n_s0 : Nat} {n_s1 : Nat} {n_s2 : Nat} {v_keys : Nat → Int32} {v_asFound : Nat → Int32} {v_found : Int32} {v_turns : Int32} {v_places : Int32} {p_keys : Nat → Int32} {p_asFound : Nat → Int32} {p_found : Int32} {p_turns : Int32} {p_places : Int32} {i_sort : Nat → Int32} {i_howOften : Nat → Int32} {i_sorts : Int32} {i_moves : Int32} {n_uq : Nat} {n_u : Nat} {u_leasts : Nat → Int32} {u_howMany : Int32} {n_wq : Nat} {n_w : Nat} {w_leasts : Nat → Int32} {w_howMany : Int32} {t_signs : Nat → Int32} {t_length : Int32} {t_whole : Int32} {t_begins : Nat → Int32} {t_ends : Nat → Int32} {r_sorts : Nat → Int32} {r_numbers : Nat → Int32} {r_length : Int32} {wo : va_W} {res : Int32 × Int32} (hf : f_X9_forgetClasses u_known w_known = some res) : MX l yX9_forgetClasses cX9_forgetClasses 1 none rm_X9_forgetClasses G ((xb G h x_hasImage f_places f_kinds f_weights f_howManyGenerators f_generators f_racks f_howManySeen f_seenFirst f_seenSecond f_seenIs f_seenPlaces f_howManyEvents f_eventWhat f_eventNumber g_places g_kinds g_weights g_howManyGenerators g_generators g_racks g_howManySeen g_seenFirst g_seenSecond g_seenIs g_seenPlaces g_howManyEvents g_eventWhat g_eventNumber n_m0 n_m1 n_m2 n_s0 n_s1 n_s2 v_keys v_asFound v_found v_turns v_places p_keys p_asFound p_found p_turns p_places i_sort i_howOften i_sorts i_moves n_uq n_u u_leasts u_howMany u_known n_wq n_w w_leasts w_howMany w_known t_signs t_length t_whole t_begins t_ends r_sorts r_numbers r_length) ++ wo) [.ref (h 0)] ((xb G h x_hasImage f_places f_kinds f_weights f_howManyGenerators f_generators f_racks f_howManySeen f_seenFirst f_seenSecond f_seenIs f_seenPlaces f_howManyEvents f_eventWhat f_eventNumber g_places g_kinds g_weights g_howManyGenerators g_generators g_racks g_howManySeen g_seenFirst g_seenSecond g_seenIs g_seenPlaces g_howManyEvents g_eventWhat g_eventNumber n_m0 n_m1 n_m2 n_s0 n_s1 n_s2 v_keys v_asFound v_found v_turns v_places p_keys p_asFound p_found p_turns p_places i_sort i_howOften i_sorts i_moves n_uq n_u u_leasts u_howMany res.1 n_wq n_w w_leasts w_howMany res.2 t_signs t_length t_whole t_begins t_ends r_sorts r_numbers r_length) ++ wo) none 0 0 := by
  refine MX.of (plainFor_of_name (by decide)) (Nat.le_of_ble_eq_true rfl) ?_
  intro p e s m below meth c A X E hI ls hl
  obtain ⟨hx, hb, hml, hown, hts, hr, hlk⟩ := id X
  have hl : lv_has ls 1 [(0, .ref (h 0))] := hl
  unfold f_X9_forgetClasses at hf
  refine lv_aload_n (pc := 0) hx hb dX9_forgetClasses_0 rfl (lv_at hl 0 rfl) ?_
  refine x_get (pc := 1) X E hI inX9 0 rfl rfl 6 (by decide) tw_2_13 rfl dX9_forgetClasses_1 ?_
  refine lv_iconst (pc := 4) (v := 0) hx hb dX9_forgetClasses_4 (by decide) ?_
  refine x_put (pc := 5) (w' := ((xb G h x_hasImage f_places f_kinds f_weights f_howManyGenerators f_generators f_racks f_howManySeen f_seenFirst f_seenSecond f_seenIs f_seenPlaces f_howManyEvents f_eventWhat f_eventNumber g_places g_kinds g_weights g_howManyGenerators g_generators g_racks g_howManySeen g_seenFirst g_seenSecond g_seenIs g_seenPlaces g_howManyEvents g_eventWhat g_eventNumber n_m0 n_m1 n_m2 n_s0 n_s1 n_s2 v_keys v_asFound v_found v_turns v_places p_keys p_asFound p_found p_turns p_places i_sort i_howOften i_sorts i_moves n_uq n_u u_leasts u_howMany 0 n_wq n_w w_leasts w_howMany w_known t_signs t_length t_whole t_begins t_ends r_sorts r_numbers r_length) ++ wo)) X E hI inX1 tyX1 tyX1_ok nmX1 30 rfl rfl 2 (by decide) tw_1_154 rfl rfl rfl (Nat.le_of_ble_eq_true rfl) rfl dX9_forgetClasses_5 (fun H locs hI => ?_)
  refine lv_aload_n (pc := 8) hx hb dX9_forgetClasses_8 rfl (lv_at hl 0 rfl) ?_
  refine x_get (pc := 9) X E hI inX9 0 rfl rfl 7 (by decide) tw_2_14 rfl dX9_forgetClasses_9 ?_
  refine lv_iconst (pc := 12) (v := 0) hx hb dX9_forgetClasses_12 (by decide) ?_
  refine x_put (pc := 13) (w' := ((xb G h x_hasImage f_places f_kinds f_weights f_howManyGenerators f_generators f_racks f_howManySeen f_seenFirst f_seenSecond f_seenIs f_seenPlaces f_howManyEvents f_eventWhat f_eventNumber g_places g_kinds g_weights g_howManyGenerators g_generators g_racks g_howManySeen g_seenFirst g_seenSecond g_seenIs g_seenPlaces g_howManyEvents g_eventWhat g_eventNumber n_m0 n_m1 n_m2 n_s0 n_s1 n_s2 v_keys v_asFound v_found v_turns v_places p_keys p_asFound p_found p_turns p_places i_sort i_howOften i_sorts i_moves n_uq n_u u_leasts u_howMany 0 n_wq n_w w_leasts w_howMany 0 t_signs t_length t_whole t_begins t_ends r_sorts r_numbers r_length) ++ wo)) X E hI inX1 tyX1 tyX1_ok nmX1 32 rfl rfl 2 (by decide) tw_1_154 rfl rfl rfl (Nat.le_of_ble_eq_true rfl) rfl dX9_forgetClasses_13 (fun H locs hI => ?_)
  obtain rfl := Option.some.inj hf
  exact x_vret X hI dX9_forgetClasses_16

abbrev rm_X9_growMoves : Room := { frames := 4, cells := 0, slots := 0, locals := 108 }
set_option maxHeartbeats 4000000 in
set_option maxRecDepth 100000 in
theorem c_X9_growMoves (l : Launch) (G : GX) (h : Nat → Nat) {f_places : Int32} {f_howManyGenerators : Int32} {f_generators : Nat → Int32} {v_keys : Nat → Int32} {v_asFound : Nat → Int32} {v_found : Int32} {v_turns : Int32} {v_places : Int32} {u_known : Int32} {w_known : Int32} {x_hasImage : Int32} {f_kinds : Int32} {f_weights : Nat → Int32} {f_racks : Nat → Int32} {f_howManySeen : Int32} {f_seenFirst : Nat → Int32} {f_seenSecond : Nat → Int32} {f_seenIs : Nat → Int32} {f_seenPlaces : Nat → Int32} {f_howManyEvents : Int32} {f_eventWhat : Nat → Int32} {f_eventNumber : Nat → Int32} {g_places : Int32} {g_kinds : Int32} {g_weights : Nat → Int32} {g_howManyGenerators : Int32} {g_generators : Nat → Int32} {g_racks : Nat → Int32} {g_howManySeen : Int32} {g_seenFirst : Nat → Int32} {g_seenSecond : Nat → Int32} {g_seenIs : Nat → Int32} {g_seenPlaces : Nat → Int32} {g_howManyEvents : Int32} {g_eventWhat : Nat → Int32} {g_eventNumber : Nat → Int32} {n_m0 : Nat} {n_m1 : Nat} {n_m2 : Nat} {n_s0 : Nat} {n_s1 : Nat} {n_s2 : Nat} {p_keys : Nat → Int32} {p_asFound : Nat → Int32} {p_found : Int32} {p_turns : Int32} {p_places : Int32} {i_sort : Nat → Int32} {i_howOften : Nat → Int32} {i_sorts : Int32} {i_moves : Int32} {n_uq : Nat} {n_u : Nat} {u_leasts : Nat → Int32} {u_howMany : Int32} {n_wq : Nat} {n_w : Nat} {w_leasts : Nat → Int32} {w_howMany : Int32} {t_signs : Nat → Int32} {t_length : Int32} {t_whole : Int32} {t_begins : Nat → Int32} {t_ends : Nat → Int32} {r_sorts : Nat → Int32} {r_numbers : Nat → Int32} {r_length : Int32} {wo : va_W} {res : (Nat → Int32) × (Nat → Int32) × Int32 × Int32 × Int32 × Int32 × Int32} (hf : f_X9_growMoves f_places f_howManyGenerators f_generators v_keys v_asFound v_found v_turns v_places u_known w_known = some res) : MX l yX9_growMoves cX9_growMoves 1 none rm_X9_growMoves G ((xb G h x_hasImage f_places f_kinds f_weights f_howManyGenerators f_generators f_racks f_howManySeen f_seenFirst f_seenSecond f_seenIs f_seenPlaces f_howManyEvents f_eventWhat f_eventNumber g_places g_kinds g_weights g_howManyGenerators g_generators g_racks g_howManySeen g_seenFirst g_seenSecond g_seenIs g_seenPlaces g_howManyEvents g_eventWhat g_eventNumber n_m0 n_m1 n_m2 n_s0 n_s1 n_s2 v_keys v_asFound v_found v_turns v_places p_keys p_asFound p_found p_turns p_places i_sort i_howOften i_sorts i_moves n_uq n_u u_leasts u_howMany u_known n_wq n_w w_leasts w_howMany w_known t_signs t_length t_whole t_begins t_ends r_sorts r_numbers r_length) ++ wo) [.ref (h 0)] ((xb G h x_hasImage f_places f_kinds f_weights f_howManyGenerators f_generators f_racks f_howManySeen f_seenFirst f_seenSecond f_seenIs f_seenPlaces f_howManyEvents f_eventWhat f_eventNumber g_places g_kinds g_weights g_howManyGenerators g_generators g_racks g_howManySeen g_seenFirst g_seenSecond g_seenIs g_seenPlaces g_howManyEvents g_eventWhat g_eventNumber n_m0 n_m1 n_m2 n_s0 n_s1 n_s2 res.1 res.2.1 res.2.2.1 res.2.2.2.1 res.2.2.2.2.1 p_keys p_asFound p_found p_turns p_places i_sort i_howOften i_sorts i_moves n_uq n_u u_leasts u_howMany res.2.2.2.2.2.1 n_wq n_w w_leasts w_howMany res.2.2.2.2.2.2 t_signs t_length t_whole t_begins t_ends r_sorts r_numbers r_length) ++ wo) none 0 0 := by
  refine MX.of (plainFor_of_name (by decide)) (Nat.le_of_ble_eq_true rfl) ?_
  intro p e s m below meth c A X E hI ls hl
  obtain ⟨hx, hb, hml, hown, hts, hr, hlk⟩ := id X
  have hl : lv_has ls 1 [(0, .ref (h 0))] := hl
  unfold f_X9_growMoves at hf
  refine lv_aload_n (pc := 0) hx hb dX9_growMoves_0 rfl (lv_at hl 0 rfl) ?_
  refine x_get (pc := 1) X E hI inX9 0 rfl rfl 3 (by decide) tw_2_10 rfl dX9_growMoves_1 ?_
  refine lv_aload_n (pc := 4) hx hb dX9_growMoves_4 rfl (lv_at hl 0 rfl) ?_
  refine x_get (pc := 5) X E hI inX9 0 rfl rfl 0 (by decide) tw_2_7 rfl dX9_growMoves_5 ?_
  refine x_get (pc := 8) X E hI inX3 1 rfl rfl 4 (by decide) tw_1_43 rfl dX9_growMoves_8 ?_
  refine lv_aload_n (pc := 11) hx hb dX9_growMoves_11 rfl (lv_at hl 0 rfl) ?_
  refine x_get (pc := 12) X E hI inX9 0 rfl rfl 0 (by decide) tw_2_7 rfl dX9_growMoves_12 ?_
  refine x_get (pc := 15) X E hI inX3 1 rfl rfl 3 (by decide) tw_1_40 rfl dX9_growMoves_15 ?_
  obtain ⟨t1, e1, hf⟩ := q_ob hf
  refine x_cSn (pc := 18) (st1 := [.int t1, .ref (h 3), .ref n_m0]) X E hI (c_X9_lowestBits l G e1) ks_X9_106 hd_X9_lowestBits ⟨rfl, rfl⟩ (by decide) rfl hl.1 rfl (Nat.le_of_ble_eq_true rfl) dX9_growMoves_18 ⟨Nat.le_of_ble_eq_true rfl, Nat.le_of_ble_eq_true rfl⟩ rfl (fun H locs hI => ?_)
  refine lv_aload_n (pc := 21) hx hb dX9_growMoves_21 rfl (lv_at hl 0 rfl) ?_
  refine x_get (pc := 22) X E hI inX9 0 rfl rfl 0 (by decide) tw_2_7 rfl dX9_growMoves_22 ?_
  refine x_get (pc := 25) X E hI inX3 1 rfl rfl 0 (by decide) tw_1_35 rfl dX9_growMoves_25 ?_
  obtain ⟨t2, e2, hf⟩ := q_ob hf
  refine x_cVt (pc := 28) (st1 := [.int t2.1]) (w2 := (xb G h x_hasImage f_places f_kinds f_weights f_howManyGenerators f_generators f_racks f_howManySeen f_seenFirst f_seenSecond f_seenIs f_seenPlaces f_howManyEvents f_eventWhat f_eventNumber g_places g_kinds g_weights g_howManyGenerators g_generators g_racks g_howManySeen g_seenFirst g_seenSecond g_seenIs g_seenPlaces g_howManyEvents g_eventWhat g_eventNumber n_m0 n_m1 n_m2 n_s0 n_s1 n_s2 t2.2.1 t2.2.2.1 t2.2.2.2.1 t2.2.2.2.2.1 t2.2.2.2.2.2 p_keys p_asFound p_found p_turns p_places i_sort i_howOften i_sorts i_moves n_uq n_u u_leasts u_howMany u_known n_wq n_w w_leasts w_howMany w_known t_signs t_length t_whole t_begins t_ends r_sorts r_numbers r_length)) X E hI (c_X5_grow l G n_m0 n_m1 n_m2 (h 3) e2) kv_X9_110 hd_X5_grow ⟨rfl, rfl⟩ (by decide) pt_xb_vgw_0 pt_xb_vgw_0q 0 rfl rfl rfl rfl hl.1 rfl (Nat.le_of_ble_eq_true rfl) dX9_growMoves_28 ⟨Nat.le_of_ble_eq_true rfl, Nat.le_of_ble_eq_true rfl⟩ rfl (fun H locs hI => ?_)
  refine lv_pop (pc := 31) hx hb dX9_growMoves_31 rfl ?_
  refine lv_aload_n (pc := 32) hx hb dX9_growMoves_32 rfl (lv_at hl 0 rfl) ?_
  obtain ⟨t3, e3, hf⟩ := q_ob hf
  refine x_cVs (pc := 33) (st1 := []) (w1 := ((xb G h x_hasImage f_places f_kinds f_weights f_howManyGenerators f_generators f_racks f_howManySeen f_seenFirst f_seenSecond f_seenIs f_seenPlaces f_howManyEvents f_eventWhat f_eventNumber g_places g_kinds g_weights g_howManyGenerators g_generators g_racks g_howManySeen g_seenFirst g_seenSecond g_seenIs g_seenPlaces g_howManyEvents g_eventWhat g_eventNumber n_m0 n_m1 n_m2 n_s0 n_s1 n_s2 t2.2.1 t2.2.2.1 t2.2.2.2.1 t2.2.2.2.2.1 t2.2.2.2.2.2 p_keys p_asFound p_found p_turns p_places i_sort i_howOften i_sorts i_moves n_uq n_u u_leasts u_howMany t3.1 n_wq n_w w_leasts w_howMany t3.2 t_signs t_length t_whole t_begins t_ends r_sorts r_numbers r_length) ++ wo)) X E hI (c_X9_forgetClasses l G h e3) kv_X9_83 hd_X9_forgetClasses ⟨rfl, rfl⟩ (by decide) 0 rfl rfl rfl rfl hl.1 rfl (Nat.le_of_ble_eq_true rfl) dX9_growMoves_33 ⟨Nat.le_of_ble_eq_true rfl, Nat.le_of_ble_eq_true rfl⟩ rfl (fun H locs hI => ?_)
  obtain rfl := Option.some.inj hf
  exact x_vret X hI dX9_growMoves_36

abbrev rm_X9_tellMove : Room := { frames := 2, cells := 0, slots := 0, locals := 47 }
set_option maxHeartbeats 4000000 in
set_option maxRecDepth 100000 in
theorem c_X9_tellMove (l : Launch) (G : GX) (h : Nat → Nat) {l1 : Int32} {l2 : Int32} {f_places : Int32} {x_hasImage : Int32} {f_kinds : Int32} {f_weights : Nat → Int32} {f_howManyGenerators : Int32} {f_generators : Nat → Int32} {f_racks : Nat → Int32} {f_howManySeen : Int32} {f_seenFirst : Nat → Int32} {f_seenSecond : Nat → Int32} {f_seenIs : Nat → Int32} {f_seenPlaces : Nat → Int32} {f_howManyEvents : Int32} {f_eventWhat : Nat → Int32} {f_eventNumber : Nat → Int32} {g_places : Int32} {g_kinds : Int32} {g_weights : Nat → Int32} {g_howManyGenerators : Int32} {g_generators : Nat → Int32} {g_racks : Nat → Int32} {g_howManySeen : Int32} {g_seenFirst : Nat → Int32} {g_seenSecond : Nat → Int32} {g_seenIs : Nat → Int32} {g_seenPlaces : Nat → Int32} {g_howManyEvents : Int32} {g_eventWhat : Nat → Int32} {g_eventNumber : Nat → Int32} {n_m0 : Nat} {n_m1 : Nat} {n_m2 : Nat} {n_s0 : Nat} {n_s1 : Nat} {n_s2 : Nat} {v_keys : Nat → Int32} {v_asFound : Nat → Int32} {v_found : Int32} {v_turns : Int32} {v_places : Int32} {p_keys : Nat → Int32} {p_asFound : Nat → Int32} {p_found : Int32} {p_turns : Int32} {p_places : Int32} {i_sort : Nat → Int32} {i_howOften : Nat → Int32} {i_sorts : Int32} {i_moves : Int32} {n_uq : Nat} {n_u : Nat} {u_leasts : Nat → Int32} {u_howMany : Int32} {u_known : Int32} {n_wq : Nat} {n_w : Nat} {w_leasts : Nat → Int32} {w_howMany : Int32} {w_known : Int32} {t_signs : Nat → Int32} {t_length : Int32} {t_whole : Int32} {t_begins : Nat → Int32} {t_ends : Nat → Int32} {r_sorts : Nat → Int32} {r_numbers : Nat → Int32} {r_length : Int32} {wo : va_W} {res : Int32} (hf : f_X9_tellMove l1 l2 f_places = some res) : MX l yX9_tellMove cX9_tellMove 4 (some .int) rm_X9_tellMove G ((xb G h x_hasImage f_places f_kinds f_weights f_howManyGenerators f_generators f_racks f_howManySeen f_seenFirst f_seenSecond f_seenIs f_seenPlaces f_howManyEvents f_eventWhat f_eventNumber g_places g_kinds g_weights g_howManyGenerators g_generators g_racks g_howManySeen g_seenFirst g_seenSecond g_seenIs g_seenPlaces g_howManyEvents g_eventWhat g_eventNumber n_m0 n_m1 n_m2 n_s0 n_s1 n_s2 v_keys v_asFound v_found v_turns v_places p_keys p_asFound p_found p_turns p_places i_sort i_howOften i_sorts i_moves n_uq n_u u_leasts u_howMany u_known n_wq n_w w_leasts w_howMany w_known t_signs t_length t_whole t_begins t_ends r_sorts r_numbers r_length) ++ wo) [.ref (h 0), .int l1, .int l2] ((xb G h x_hasImage f_places f_kinds f_weights f_howManyGenerators f_generators f_racks f_howManySeen f_seenFirst f_seenSecond f_seenIs f_seenPlaces f_howManyEvents f_eventWhat f_eventNumber g_places g_kinds g_weights g_howManyGenerators g_generators g_racks g_howManySeen g_seenFirst g_seenSecond g_seenIs g_seenPlaces g_howManyEvents g_eventWhat g_eventNumber n_m0 n_m1 n_m2 n_s0 n_s1 n_s2 v_keys v_asFound v_found v_turns v_places p_keys p_asFound p_found p_turns p_places i_sort i_howOften i_sorts i_moves n_uq n_u u_leasts u_howMany u_known n_wq n_w w_leasts w_howMany w_known t_signs t_length t_whole t_begins t_ends r_sorts r_numbers r_length) ++ wo) (some (.int res)) 0 0 := by
  refine MX.of (plainFor_of_name (by decide)) (Nat.le_of_ble_eq_true rfl) ?_
  intro p e s m below meth c A X E hI ls hl
  obtain ⟨hx, hb, hml, hown, hts, hr, hlk⟩ := id X
  have hl : lv_has ls 4 [(0, .ref (h 0)), (1, .int l1), (2, .int l2)] := hl
  unfold f_X9_tellMove at hf
  refine lv_iload_n (pc := 0) hx hb dX9_tellMove_0 rfl (lv_at hl 1 rfl) ?_
  refine lv_iconst (pc := 1) (v := 1) hx hb dX9_tellMove_1 (by decide) ?_
  refine lv_ishr (pc := 2) hx hb dX9_tellMove_2 ?_
  refine lv_istore_n (pc := 3) (lv' := [(3, .int (l1 >>> (1 &&& 31))), (0, .ref (h 0)), (1, .int l1), (2, .int l2)]) hx hb dX9_tellMove_3 rfl hl (by decide) rfl (fun ls hl => ?_)
  refine lv_iload_n (pc := 4) hx hb dX9_tellMove_4 rfl (lv_at hl 3 rfl) ?_
  rcases Decidable.em (l2 = 0) with c1 | c1
  · refine lv_tableIn (pc := 5) (tgt := 32) hx hb dX9_tellMove_5 (by rw [c1]; decide) (by rw [c1]; decide) (by rw [c1]; rfl) (by decide) ?_
    have hf := q_ip c1 hf
    refine lv_iload_n (pc := 32) hx hb dX9_tellMove_32 rfl (lv_at hl 0 rfl) ?_
    refine lv_aload_n (pc := 33) hx hb dX9_tellMove_33 rfl (lv_at hl 1 rfl) ?_
    refine x_get (pc := 34) X E hI inX9 0 rfl rfl 0 (by decide) tw_2_7 rfl dX9_tellMove_34 ?_
    refine x_get (pc := 37) X E hI inX3 1 rfl rfl 0 (by decide) tw_1_35 rfl dX9_tellMove_37 ?_
    refine lv_iconst (pc := 40) (v := 1) hx hb dX9_tellMove_40 (by decide) ?_
    obtain ⟨t2, e2, hf⟩ := q_ob hf
    refine x_cSn (pc := 41) (st1 := [.int t2]) X E hI (c_X2_number l G e2) ks_X9_326 hd_X2_number ⟨rfl, rfl⟩ (by decide) rfl hl.1 rfl (Nat.le_of_ble_eq_true rfl) dX9_tellMove_41 ⟨Nat.le_of_ble_eq_true rfl, Nat.le_of_ble_eq_true rfl⟩ rfl (fun H locs hI => ?_)
    obtain rfl := Option.some.inj hf
    exact x_iret X hI dX9_tellMove_44
  · have hf := q_in c1 hf
    rcases Decidable.em (l2 = 1) with c3 | c3
    · refine lv_tableIn (pc := 5) (tgt := 45) hx hb dX9_tellMove_5 (by rw [c3]; decide) (by rw [c3]; decide) (by rw [c3]; rfl) (by decide) ?_
      have hf := q_ip c3 hf
      refine lv_iload_n (pc := 45) hx hb dX9_tellMove_45 rfl (lv_at hl 2 rfl) ?_
      refine lv_iconst (pc := 46) (v := 1) hx hb dX9_tellMove_46 (by decide) ?_
      refine lv_iand (pc := 47) hx hb dX9_tellMove_47 ?_
      obtain rfl := Option.some.inj hf
      exact x_iret X hI dX9_tellMove_48
    · have hf := q_in c3 hf
      rcases Decidable.em (l2 = 2) with c4 | c4
      · refine lv_tableIn (pc := 5) (tgt := 49) hx hb dX9_tellMove_5 (by rw [c4]; decide) (by rw [c4]; decide) (by rw [c4]; rfl) (by decide) ?_
        have hf := q_ip c4 hf
        refine lv_iload_n (pc := 49) hx hb dX9_tellMove_49 rfl (lv_at hl 0 rfl) ?_
        refine lv_aload_n (pc := 50) hx hb dX9_tellMove_50 rfl (lv_at hl 1 rfl) ?_
        refine x_get (pc := 51) X E hI inX9 0 rfl rfl 0 (by decide) tw_2_7 rfl dX9_tellMove_51 ?_
        refine x_get (pc := 54) X E hI inX3 1 rfl rfl 0 (by decide) tw_1_35 rfl dX9_tellMove_54 ?_
        obtain ⟨t5, e5, hf⟩ := q_ob hf
        refine x_cSn (pc := 57) (st1 := [.int t5]) X E hI (c_X2_cycleType l G e5) ks_X9_336 hd_X2_cycleType ⟨rfl, rfl⟩ (by decide) rfl hl.1 rfl (Nat.le_of_ble_eq_true rfl) dX9_tellMove_57 ⟨Nat.le_of_ble_eq_true rfl, Nat.le_of_ble_eq_true rfl⟩ rfl (fun H locs hI => ?_)
        obtain rfl := Option.some.inj hf
        exact x_iret X hI dX9_tellMove_60
      · have hf := q_in c4 hf
        refine lv_tableOut (pc := 5) (tgt := 61) hx hb dX9_tellMove_5 (q_out_0_2 c1 c3 c4) (by decide) ?_
        refine lv_iconst (pc := 61) (v := (-1)) hx hb dX9_tellMove_61 (by decide) ?_
        obtain rfl := Option.some.inj hf
        exact x_iret X hI dX9_tellMove_62

abbrev rm_X9_productOf : Room := { frames := 3, cells := 0, slots := 0, locals := 67 }
set_option maxHeartbeats 4000000 in
set_option maxRecDepth 100000 in
theorem k_X9_productOf_L15 {p : Program} {l : Launch} {e : Env} {s : State} {m : MethodId} {args : Array Value} {below : List Frame} {meth : Method} {c : Code} {A : Nat → Prop} {G : GX} {h : Nat → Nat} {l1 : Int32} {x_hasImage : Int32} {f_places : Int32} {f_kinds : Int32} {f_weights : Nat → Int32} {f_howManyGenerators : Int32} {f_generators : Nat → Int32} {f_racks : Nat → Int32} {f_howManySeen : Int32} {f_seenFirst : Nat → Int32} {f_seenSecond : Nat → Int32} {f_seenIs : Nat → Int32} {f_seenPlaces : Nat → Int32} {f_howManyEvents : Int32} {f_eventWhat : Nat → Int32} {f_eventNumber : Nat → Int32} {g_places : Int32} {g_kinds : Int32} {g_weights : Nat → Int32} {g_howManyGenerators : Int32} {g_generators : Nat → Int32} {g_racks : Nat → Int32} {g_howManySeen : Int32} {g_seenFirst : Nat → Int32} {g_seenSecond : Nat → Int32} {g_seenIs : Nat → Int32} {g_seenPlaces : Nat → Int32} {g_howManyEvents : Int32} {g_eventWhat : Nat → Int32} {g_eventNumber : Nat → Int32} {n_m0 : Nat} {n_m1 : Nat} {n_m2 : Nat} {n_s0 : Nat} {n_s1 : Nat} {n_s2 : Nat} {v_keys : Nat → Int32} {v_asFound : Nat → Int32} {v_found : Int32} {v_turns : Int32} {v_places : Int32} {p_keys : Nat → Int32} {p_asFound : Nat → Int32} {p_found : Int32} {p_turns : Int32} {p_places : Int32} {i_sort : Nat → Int32} {i_howOften : Nat → Int32} {i_sorts : Int32} {i_moves : Int32} {n_uq : Nat} {n_u : Nat} {u_leasts : Nat → Int32} {u_howMany : Int32} {u_known : Int32} {n_wq : Nat} {n_w : Nat} {w_leasts : Nat → Int32} {w_howMany : Int32} {w_known : Int32} {t_signs : Nat → Int32} {t_length : Int32} {t_whole : Int32} {t_begins : Nat → Int32} {t_ends : Nat → Int32} {r_sorts : Nat → Int32} {r_numbers : Nat → Int32} {r_length : Int32} {wo : va_W} {K : Int32 → Int32 → Option (Int32)} {res : Int32} (X : CX RX9 cX9_productOf 5 (some .int) p s m args meth c) (E : EX G A s)
    (hK : ∀ (l2 : Int32) (l3 : Int32) (H : Heap) (locs : List Loc) (ls : Array Slot), IN A G ((xb G h x_hasImage f_places f_kinds f_weights f_howManyGenerators f_generators f_racks f_howManySeen f_seenFirst f_seenSecond f_seenIs f_seenPlaces f_howManyEvents f_eventWhat f_eventNumber g_places g_kinds g_weights g_howManyGenerators g_generators g_racks g_howManySeen g_seenFirst g_seenSecond g_seenIs g_seenPlaces g_howManyEvents g_eventWhat g_eventNumber n_m0 n_m1 n_m2 n_s0 n_s1 n_s2 v_keys v_asFound v_found v_turns v_places p_keys p_asFound p_found p_turns p_places i_sort i_howOften i_sorts i_moves n_uq n_u u_leasts u_howMany u_known n_wq n_w w_leasts w_howMany w_known t_signs t_length t_whole t_begins t_ends r_sorts r_numbers r_length) ++ wo) s H locs → lv_has ls 5 [(0, .ref (h 0)), (1, .int l1), (2, .int l2), (3, .int l3)] → K l2 l3 = some res → W p l e rm_X9_productOf s m args below meth c H locs 0 0 (MQ below (QX G A ((xb G h x_hasImage f_places f_kinds f_weights f_howManyGenerators f_generators f_racks f_howManySeen f_seenFirst f_seenSecond f_seenIs f_seenPlaces f_howManyEvents f_eventWhat f_eventNumber g_places g_kinds g_weights g_howManyGenerators g_generators g_racks g_howManySeen g_seenFirst g_seenSecond g_seenIs g_seenPlaces g_howManyEvents g_eventWhat g_eventNumber n_m0 n_m1 n_m2 n_s0 n_s1 n_s2 v_keys v_asFound v_found v_turns v_places p_keys p_asFound p_found p_turns p_places i_sort i_howOften i_sorts i_moves n_uq n_u u_leasts u_howMany u_known n_wq n_w w_leasts w_howMany w_known t_signs t_length t_whole t_begins t_ends r_sorts r_numbers r_length) ++ wo) (some (.int res))) args s 0 0 A) (F0 m 72 ls [])) :
    ∀ {k : Nat} {l2 : Int32} {l3 : Int32} {H : Heap} {locs : List Loc} {ls : Array Slot}, IN A G ((xb G h x_hasImage f_places f_kinds f_weights f_howManyGenerators f_generators f_racks f_howManySeen f_seenFirst f_seenSecond f_seenIs f_seenPlaces f_howManyEvents f_eventWhat f_eventNumber g_places g_kinds g_weights g_howManyGenerators g_generators g_racks g_howManySeen g_seenFirst g_seenSecond g_seenIs g_seenPlaces g_howManyEvents g_eventWhat g_eventNumber n_m0 n_m1 n_m2 n_s0 n_s1 n_s2 v_keys v_asFound v_found v_turns v_places p_keys p_asFound p_found p_turns p_places i_sort i_howOften i_sorts i_moves n_uq n_u u_leasts u_howMany u_known n_wq n_w w_leasts w_howMany w_known t_signs t_length t_whole t_begins t_ends r_sorts r_numbers r_length) ++ wo) s H locs → lv_has ls 5 [(0, .ref (h 0)), (1, .int l1), (2, .int l2), (3, .int l3)] → f_X9_productOf_L15 l1 f_places f_howManyGenerators f_generators f_racks K k l2 l3 = some res → W p l e rm_X9_productOf s m args below meth c H locs 0 0 (MQ below (QX G A ((xb G h x_hasImage f_places f_kinds f_weights f_howManyGenerators f_generators f_racks f_howManySeen f_seenFirst f_seenSecond f_seenIs f_seenPlaces f_howManyEvents f_eventWhat f_eventNumber g_places g_kinds g_weights g_howManyGenerators g_generators g_racks g_howManySeen g_seenFirst g_seenSecond g_seenIs g_seenPlaces g_howManyEvents g_eventWhat g_eventNumber n_m0 n_m1 n_m2 n_s0 n_s1 n_s2 v_keys v_asFound v_found v_turns v_places p_keys p_asFound p_found p_turns p_places i_sort i_howOften i_sorts i_moves n_uq n_u u_leasts u_howMany u_known n_wq n_w w_leasts w_howMany w_known t_signs t_length t_whole t_begins t_ends r_sorts r_numbers r_length) ++ wo) (some (.int res))) args s 0 0 A) (F0 m 15 ls []) := by
  obtain ⟨hx, hb, hml, hown, hts, hr, hlk⟩ := id X
  intro k
  induction k with
  | zero => intro l2 l3 H locs ls hI hl hf; exact nomatch (show none = some res from hf)
  | succ k ih =>
    intro l2 l3 H locs ls hI hl hf
    rw [f_X9_productOf_L15] at hf
    refine lv_iload_n (pc := 15) hx hb dX9_productOf_15 rfl (lv_at hl 3 rfl) ?_
    refine lv_iconst (pc := 16) (v := 3) hx hb dX9_productOf_16 (by decide) ?_
    refine lv_icmp_ge (pc := 17) (tgt := 72) hx hb dX9_productOf_17 (by decide) (fun c1 => ?_) (fun c1 => ?_)
    · have hf := q_ip c1 hf
      exact hK _ _ _ _ _ hI (lv_sub hl [0, 1, 2, 3] rfl) hf
    · have hf := q_in c1 hf
      refine lv_aload_n (pc := 20) hx hb dX9_productOf_20 rfl (lv_at hl 0 rfl) ?_
      refine x_get (pc := 21) X E hI inX9 0 rfl rfl 0 (by decide) tw_2_7 rfl dX9_productOf_21 ?_
      refine x_get (pc := 24) X E hI inX3 1 rfl rfl 5 (by decide) tw_1_45 rfl dX9_productOf_24 ?_
      refine lv_iload_n (pc := 27) hx hb dX9_productOf_27 rfl (lv_at hl 1 rfl) ?_
      refine lv_iconst (pc := 28) (v := 3) hx hb dX9_productOf_28 (by decide) ?_
      refine lv_imul (pc := 29) hx hb dX9_productOf_29 ?_
      refine lv_iload_n (pc := 30) hx hb dX9_productOf_30 rfl (lv_at hl 3 rfl) ?_
      refine lv_iadd (pc := 31) hx hb dX9_productOf_31 ?_
      obtain ⟨t2, e2, hf⟩ := q_ob hf
      refine x_iald (pc := 32) X E hI 4 rfl e2 dX9_productOf_32 ?_
      refine lv_istore (pc := 33) (lv' := [(4, .int t2), (0, .ref (h 0)), (1, .int l1), (2, .int l2), (3, .int l3)]) hx hb dX9_productOf_33 hl (by decide) rfl (fun ls hl => ?_)
      refine lv_aload_n (pc := 35) hx hb dX9_productOf_35 rfl (lv_at hl 1 rfl) ?_
      refine lv_iload (pc := 36) hx hb dX9_productOf_36 (lv_at hl 0 rfl) ?_
      obtain ⟨t3, e3, hf⟩ := q_ob hf
      refine x_cVs (pc := 38) (st1 := [.int t3]) (w1 := ((xb G h x_hasImage f_places f_kinds f_weights f_howManyGenerators f_generators f_racks f_howManySeen f_seenFirst f_seenSecond f_seenIs f_seenPlaces f_howManyEvents f_eventWhat f_eventNumber g_places g_kinds g_weights g_howManyGenerators g_generators g_racks g_howManySeen g_seenFirst g_seenSecond g_seenIs g_seenPlaces g_howManyEvents g_eventWhat g_eventNumber n_m0 n_m1 n_m2 n_s0 n_s1 n_s2 v_keys v_asFound v_found v_turns v_places p_keys p_asFound p_found p_turns p_places i_sort i_howOften i_sorts i_moves n_uq n_u u_leasts u_howMany u_known n_wq n_w w_leasts w_howMany w_known t_signs t_length t_whole t_begins t_ends r_sorts r_numbers r_length) ++ wo)) X E hI (c_X9_isGenerator l G h e3) kv_X9_126 hd_X9_isGenerator ⟨rfl, rfl⟩ (by decide) 0 rfl rfl rfl rfl hl.1 rfl (Nat.le_of_ble_eq_true rfl) dX9_productOf_38 ⟨Nat.le_of_ble_eq_true rfl, Nat.le_of_ble_eq_true rfl⟩ rfl (fun H locs hI => ?_)
      refine lv_if_eq (pc := 41) (tgt := 66) hx hb dX9_productOf_41 (by decide) (fun c4 => ?_) (fun c4 => ?_)
      · have hf := q_ip c4 hf
        refine lv_iinc (pc := 66) (v := l3 + 1) (lv' := [(3, .int (l3 + 1)), (4, .int t2), (0, .ref (h 0)), (1, .int l1), (2, .int l2)]) hx hb dX9_productOf_66 hl (k := 4) rfl rfl (by decide) rfl (fun ls hl => ?_)
        refine lv_goto (pc := 69) (tgt := 15) hx hb dX9_productOf_69 (by decide) ?_
        exact ih hI (lv_sub hl [2, 3, 4, 0] rfl) hf
      · have hf := q_in c4 hf
        refine lv_iload_n (pc := 44) hx hb dX9_productOf_44 rfl (lv_at hl 3 rfl) ?_
        refine lv_aload_n (pc := 45) hx hb dX9_productOf_45 rfl (lv_at hl 1 rfl) ?_
        refine x_get (pc := 46) X E hI inX9 0 rfl rfl 0 (by decide) tw_2_7 rfl dX9_productOf_46 ?_
        refine x_get (pc := 49) X E hI inX3 1 rfl rfl 4 (by decide) tw_1_43 rfl dX9_productOf_49 ?_
        refine lv_iload (pc := 52) hx hb dX9_productOf_52 (lv_at hl 0 rfl) ?_
        obtain ⟨t5, e5, hf⟩ := q_ob hf
        refine x_iald (pc := 54) X E hI 3 rfl e5 dX9_productOf_54 ?_
        refine lv_aload_n (pc := 55) hx hb dX9_productOf_55 rfl (lv_at hl 1 rfl) ?_
        refine x_get (pc := 56) X E hI inX9 0 rfl rfl 0 (by decide) tw_2_7 rfl dX9_productOf_56 ?_
        refine x_get (pc := 59) X E hI inX3 1 rfl rfl 0 (by decide) tw_1_35 rfl dX9_productOf_59 ?_
        obtain ⟨t6, e6, hf⟩ := q_ob hf
        refine x_cSn (pc := 62) (st1 := [.int t6]) X E hI (c_X5_behind l G e6) ks_X9_342 hd_X5_behind ⟨rfl, rfl⟩ (by decide) rfl hl.1 rfl (Nat.le_of_ble_eq_true rfl) dX9_productOf_62 ⟨Nat.le_of_ble_eq_true rfl, Nat.le_of_ble_eq_true rfl⟩ rfl (fun H locs hI => ?_)
        refine lv_istore_n (pc := 65) (lv' := [(2, .int t6), (4, .int t2), (0, .ref (h 0)), (1, .int l1), (3, .int l3)]) hx hb dX9_productOf_65 rfl hl (by decide) rfl (fun ls hl => ?_)
        refine lv_iinc (pc := 66) (v := l3 + 1) (lv' := [(3, .int (l3 + 1)), (2, .int t6), (4, .int t2), (0, .ref (h 0)), (1, .int l1)]) hx hb dX9_productOf_66 hl (k := 4) rfl rfl (by decide) rfl (fun ls hl => ?_)
        refine lv_goto (pc := 69) (tgt := 15) hx hb dX9_productOf_69 (by decide) ?_
        exact ih hI (lv_sub hl [3, 4, 1, 0] rfl) hf

set_option maxHeartbeats 4000000 in
set_option maxRecDepth 100000 in
theorem c_X9_productOf (l : Launch) (G : GX) (h : Nat → Nat) {l1 : Int32} {f_places : Int32} {f_howManyGenerators : Int32} {f_generators : Nat → Int32} {f_racks : Nat → Int32} {x_hasImage : Int32} {f_kinds : Int32} {f_weights : Nat → Int32} {f_howManySeen : Int32} {f_seenFirst : Nat → Int32} {f_seenSecond : Nat → Int32} {f_seenIs : Nat → Int32} {f_seenPlaces : Nat → Int32} {f_howManyEvents : Int32} {f_eventWhat : Nat → Int32} {f_eventNumber : Nat → Int32} {g_places : Int32} {g_kinds : Int32} {g_weights : Nat → Int32} {g_howManyGenerators : Int32} {g_generators : Nat → Int32} {g_racks : Nat → Int32} {g_howManySeen : Int32} {g_seenFirst : Nat → Int32} {g_seenSecond : Nat → Int32} {g_seenIs : Nat → Int32} {g_seenPlaces : Nat → Int32} {g_howManyEvents : Int32} {g_eventWhat : Nat → Int32} {g_eventNumber : Nat → Int32} {n_m0 : Nat} {n_m1 : Nat} {n_m2 : Nat} {n_s0 : Nat} {n_s1 : Nat} {n_s2 : Nat} {v_keys : Nat → Int32} {v_asFound : Nat → Int32} {v_found : Int32} {v_turns : Int32} {v_places : Int32} {p_keys : Nat → Int32} {p_asFound : Nat → Int32} {p_found : Int32} {p_turns : Int32} {p_places : Int32} {i_sort : Nat → Int32} {i_howOften : Nat → Int32} {i_sorts : Int32} {i_moves : Int32} {n_uq : Nat} {n_u : Nat} {u_leasts : Nat → Int32} {u_howMany : Int32} {u_known : Int32} {n_wq : Nat} {n_w : Nat} {w_leasts : Nat → Int32} {w_howMany : Int32} {w_known : Int32} {t_signs : Nat → Int32} {t_length : Int32} {t_whole : Int32} {t_begins : Nat → Int32} {t_ends : Nat → Int32} {r_sorts : Nat → Int32} {r_numbers : Nat → Int32} {r_length : Int32} {wo : va_W} {res : Int32} (hf : f_X9_productOf l1 f_places f_howManyGenerators f_generators f_racks = some res) : MX l yX9_productOf cX9_productOf 5 (some .int) rm_X9_productOf G ((xb G h x_hasImage f_places f_kinds f_weights f_howManyGenerators f_generators f_racks f_howManySeen f_seenFirst f_seenSecond f_seenIs f_seenPlaces f_howManyEvents f_eventWhat f_eventNumber g_places g_kinds g_weights g_howManyGenerators g_generators g_racks g_howManySeen g_seenFirst g_seenSecond g_seenIs g_seenPlaces g_howManyEvents g_eventWhat g_eventNumber n_m0 n_m1 n_m2 n_s0 n_s1 n_s2 v_keys v_asFound v_found v_turns v_places p_keys p_asFound p_found p_turns p_places i_sort i_howOften i_sorts i_moves n_uq n_u u_leasts u_howMany u_known n_wq n_w w_leasts w_howMany w_known t_signs t_length t_whole t_begins t_ends r_sorts r_numbers r_length) ++ wo) [.ref (h 0), .int l1] ((xb G h x_hasImage f_places f_kinds f_weights f_howManyGenerators f_generators f_racks f_howManySeen f_seenFirst f_seenSecond f_seenIs f_seenPlaces f_howManyEvents f_eventWhat f_eventNumber g_places g_kinds g_weights g_howManyGenerators g_generators g_racks g_howManySeen g_seenFirst g_seenSecond g_seenIs g_seenPlaces g_howManyEvents g_eventWhat g_eventNumber n_m0 n_m1 n_m2 n_s0 n_s1 n_s2 v_keys v_asFound v_found v_turns v_places p_keys p_asFound p_found p_turns p_places i_sort i_howOften i_sorts i_moves n_uq n_u u_leasts u_howMany u_known n_wq n_w w_leasts w_howMany w_known t_signs t_length t_whole t_begins t_ends r_sorts r_numbers r_length) ++ wo) (some (.int res)) 0 0 := by
  refine MX.of (plainFor_of_name (by decide)) (Nat.le_of_ble_eq_true rfl) ?_
  intro p e s m below meth c A X E hI ls hl
  obtain ⟨hx, hb, hml, hown, hts, hr, hlk⟩ := id X
  have hl : lv_has ls 5 [(0, .ref (h 0)), (1, .int l1)] := hl
  unfold f_X9_productOf at hf
  refine lv_aload_n (pc := 0) hx hb dX9_productOf_0 rfl (lv_at hl 0 rfl) ?_
  refine x_get (pc := 1) X E hI inX9 0 rfl rfl 0 (by decide) tw_2_7 rfl dX9_productOf_1 ?_
  refine x_get (pc := 4) X E hI inX3 1 rfl rfl 0 (by decide) tw_1_35 rfl dX9_productOf_4 ?_
  obtain ⟨t1, e1, hf⟩ := q_ob hf
  refine x_cSn (pc := 7) (st1 := [.int t1]) X E hI (c_X2_unmoved l G e1) ks_X9_339 hd_X2_unmoved ⟨rfl, rfl⟩ (by decide) rfl hl.1 rfl (Nat.le_of_ble_eq_true rfl) dX9_productOf_7 ⟨Nat.le_of_ble_eq_true rfl, Nat.le_of_ble_eq_true rfl⟩ rfl (fun H locs hI => ?_)
  refine lv_iconst (pc := 10) (v := 1) hx hb dX9_productOf_10 (by decide) ?_
  refine lv_ishl (pc := 11) hx hb dX9_productOf_11 ?_
  refine lv_istore_n (pc := 12) (lv' := [(2, .int (t1 <<< (1 &&& 31))), (0, .ref (h 0)), (1, .int l1)]) hx hb dX9_productOf_12 rfl hl (by decide) rfl (fun ls hl => ?_)
  refine lv_iconst (pc := 13) (v := 0) hx hb dX9_productOf_13 (by decide) ?_
  refine lv_istore_n (pc := 14) (lv' := [(3, .int 0), (2, .int (t1 <<< (1 &&& 31))), (0, .ref (h 0)), (1, .int l1)]) hx hb dX9_productOf_14 rfl hl (by decide) rfl (fun ls hl => ?_)
  refine k_X9_productOf_L15 X E (fun l2_2 l3_2 H locs ls hI hl hf => ?_) hI (lv_sub hl [2, 3, 1, 0] rfl) hf
  refine lv_iload_n (pc := 72) hx hb dX9_productOf_72 rfl (lv_at hl 2 rfl) ?_
  obtain rfl := Option.some.inj hf
  exact x_iret X hI dX9_productOf_73

abbrev rm_X9_classesBy_0 : Room := { frames := 3, cells := 1, slots := 4096, locals := 74 }
set_option maxHeartbeats 4000000 in
set_option maxRecDepth 100000 in
theorem c_X9_classesBy_0 (l : Launch) (G : GX) (h : Nat → Nat) {f_places : Int32} {f_kinds : Int32} {v_keys : Nat → Int32} {v_found : Int32} {v_places : Int32} {n_u : Nat} {u_leasts : Nat → Int32} {u_howMany : Int32} {u_known : Int32} {x_hasImage : Int32} {f_weights : Nat → Int32} {f_howManyGenerators : Int32} {f_generators : Nat → Int32} {f_racks : Nat → Int32} {f_howManySeen : Int32} {f_seenFirst : Nat → Int32} {f_seenSecond : Nat → Int32} {f_seenIs : Nat → Int32} {f_seenPlaces : Nat → Int32} {f_howManyEvents : Int32} {f_eventWhat : Nat → Int32} {f_eventNumber : Nat → Int32} {g_places : Int32} {g_kinds : Int32} {g_weights : Nat → Int32} {g_howManyGenerators : Int32} {g_generators : Nat → Int32} {g_racks : Nat → Int32} {g_howManySeen : Int32} {g_seenFirst : Nat → Int32} {g_seenSecond : Nat → Int32} {g_seenIs : Nat → Int32} {g_seenPlaces : Nat → Int32} {g_howManyEvents : Int32} {g_eventWhat : Nat → Int32} {g_eventNumber : Nat → Int32} {n_m0 : Nat} {n_m1 : Nat} {n_m2 : Nat} {n_s0 : Nat} {n_s1 : Nat} {n_s2 : Nat} {v_asFound : Nat → Int32} {v_turns : Int32} {p_keys : Nat → Int32} {p_asFound : Nat → Int32} {p_found : Int32} {p_turns : Int32} {p_places : Int32} {i_sort : Nat → Int32} {i_howOften : Nat → Int32} {i_sorts : Int32} {i_moves : Int32} {n_uq : Nat} {n_wq : Nat} {n_w : Nat} {w_leasts : Nat → Int32} {w_howMany : Int32} {w_known : Int32} {t_signs : Nat → Int32} {t_length : Int32} {t_whole : Int32} {t_begins : Nat → Int32} {t_ends : Nat → Int32} {r_sorts : Nat → Int32} {r_numbers : Nat → Int32} {r_length : Int32} {wo : va_W} {res : Nat × (Nat → Int32) × Int32 × Int32} (hf : f_X9_classesBy_0 f_places f_kinds v_keys v_found v_places n_u u_leasts u_howMany u_known = some res) : ME l yX9_classesBy cX9_classesBy 3 (some (.object "PaintFrames$Classes")) rm_X9_classesBy_0 G ((xb G h x_hasImage f_places f_kinds f_weights f_howManyGenerators f_generators f_racks f_howManySeen f_seenFirst f_seenSecond f_seenIs f_seenPlaces f_howManyEvents f_eventWhat f_eventNumber g_places g_kinds g_weights g_howManyGenerators g_generators g_racks g_howManySeen g_seenFirst g_seenSecond g_seenIs g_seenPlaces g_howManyEvents g_eventWhat g_eventNumber n_m0 n_m1 n_m2 n_s0 n_s1 n_s2 v_keys v_asFound v_found v_turns v_places p_keys p_asFound p_found p_turns p_places i_sort i_howOften i_sorts i_moves n_uq n_u u_leasts u_howMany u_known n_wq n_w w_leasts w_howMany w_known t_signs t_length t_whole t_begins t_ends r_sorts r_numbers r_length) ++ wo) [.ref (h 0), .int 0] (fun q : Nat => ((xb G h x_hasImage f_places f_kinds f_weights f_howManyGenerators f_generators f_racks f_howManySeen f_seenFirst f_seenSecond f_seenIs f_seenPlaces f_howManyEvents f_eventWhat f_eventNumber g_places g_kinds g_weights g_howManyGenerators g_generators g_racks g_howManySeen g_seenFirst g_seenSecond g_seenIs g_seenPlaces g_howManyEvents g_eventWhat g_eventNumber n_m0 n_m1 n_m2 n_s0 n_s1 n_s2 v_keys v_asFound v_found v_turns v_places p_keys p_asFound p_found p_turns p_places i_sort i_howOften i_sorts i_moves q res.1 res.2.1 res.2.2.1 res.2.2.2 n_wq n_w w_leasts w_howMany w_known t_signs t_length t_whole t_begins t_ends r_sorts r_numbers r_length) ++ wo)) (some (.ref (h 24))) 1 4096 := by
  refine ME.of (plainFor_of_name (by decide)) (Nat.le_of_ble_eq_true rfl) ?_
  intro p e s m below meth c A X E hI ls hl
  obtain ⟨hx, hb, hml, hown, hts, hr, hlk⟩ := id X
  have hl : lv_has ls 3 [(0, .ref (h 0)), (1, .int 0)] := hl
  unfold f_X9_classesBy_0 at hf
  refine lv_iload_n (pc := 0) hx hb dX9_classesBy_0 rfl (lv_at hl 1 rfl) ?_
  refine lv_if_ne (pc := 1) (tgt := 11) hx hb dX9_classesBy_1 (by decide) (fun c1 => ?_) (fun c1 => ?_)
  · exact absurd c1 (by decide)
  · refine lv_aload_n (pc := 4) hx hb dX9_classesBy_4 rfl (lv_at hl 0 rfl) ?_
    refine x_get (pc := 5) X E hI inX9 0 rfl rfl 6 (by decide) tw_2_13 rfl dX9_classesBy_5 ?_
    refine lv_goto (pc := 8) (tgt := 15) hx hb dX9_classesBy_8 (by decide) ?_
    refine lv_astore_n (pc := 15) (lv' := [(2, .ref (h 24)), (0, .ref (h 0)), (1, .int 0)]) hx hb dX9_classesBy_15 rfl hl (by decide) rfl (fun ls hl => ?_)
    refine lv_aload_n (pc := 16) hx hb dX9_classesBy_16 rfl (lv_at hl 0 rfl) ?_
    refine x_get (pc := 17) X E hI inX1 30 rfl rfl 2 (by decide) tw_1_154 rfl dX9_classesBy_17 ?_
    refine lv_if_ne (pc := 20) (tgt := 43) hx hb dX9_classesBy_20 (by decide) (fun c2 => ?_) (fun c2 => ?_)
    · have hf := q_in c2 hf
      refine lv_aload_n (pc := 43) hx hb dX9_classesBy_43 rfl (lv_at hl 0 rfl) ?_
      obtain rfl := Option.some.inj hf
      refine W.widen (k := 1) (n := 4096) (by decide) (by decide) ?_
      exact x_aretE n_uq X hI dX9_classesBy_44
    · have hf := q_ip c2 hf
      refine lv_aload_n (pc := 23) hx hb dX9_classesBy_23 rfl (lv_at hl 0 rfl) ?_
      refine lv_aload_n (pc := 24) hx hb dX9_classesBy_24 rfl (lv_at hl 1 rfl) ?_
      refine x_get (pc := 25) X E hI inX9 0 rfl rfl 3 (by decide) tw_2_10 rfl dX9_classesBy_25 ?_
      refine lv_iload_n (pc := 28) hx hb dX9_classesBy_28 rfl (lv_at hl 2 rfl) ?_
      refine lv_aload_n (pc := 29) hx hb dX9_classesBy_29 rfl (lv_at hl 1 rfl) ?_
      refine x_get (pc := 30) X E hI inX9 0 rfl rfl 0 (by decide) tw_2_7 rfl dX9_classesBy_30 ?_
      refine x_get (pc := 33) X E hI inX3 1 rfl rfl 1 (by decide) tw_1_37 rfl dX9_classesBy_33 ?_
      refine lv_aload_n (pc := 36) hx hb dX9_classesBy_36 rfl (lv_at hl 1 rfl) ?_
      obtain ⟨t3, e3, hf⟩ := q_ob hf
      refine x_cVs (pc := 37) (st1 := [.int t3, .int f_kinds, .int 0, .ref n_m0, .ref (h 24)]) (w1 := ((xb G h x_hasImage f_places f_kinds f_weights f_howManyGenerators f_generators f_racks f_howManySeen f_seenFirst f_seenSecond f_seenIs f_seenPlaces f_howManyEvents f_eventWhat f_eventNumber g_places g_kinds g_weights g_howManyGenerators g_generators g_racks g_howManySeen g_seenFirst g_seenSecond g_seenIs g_seenPlaces g_howManyEvents g_eventWhat g_eventNumber n_m0 n_m1 n_m2 n_s0 n_s1 n_s2 v_keys v_asFound v_found v_turns v_places p_keys p_asFound p_found p_turns p_places i_sort i_howOften i_sorts i_moves n_uq n_u u_leasts u_howMany u_known n_wq n_w w_leasts w_howMany w_known t_signs t_length t_whole t_begins t_ends r_sorts r_numbers r_length) ++ wo)) X E hI (c_X9_paintings l G h e3) kv_X9_151 hd_X9_paintings ⟨rfl, rfl⟩ (by decide) 0 rfl rfl rfl rfl hl.1 rfl (Nat.le_of_ble_eq_true rfl) dX9_classesBy_37 ⟨Nat.le_of_ble_eq_true rfl, Nat.le_of_ble_eq_true rfl⟩ rfl (fun H locs hI => ?_)
      obtain ⟨t4, e4, hf⟩ := q_ob hf
      refine x_cVtE (pc := 40) (st1 := []) (w2 := fun q => (xb G h x_hasImage f_places f_kinds f_weights f_howManyGenerators f_generators f_racks f_howManySeen f_seenFirst f_seenSecond f_seenIs f_seenPlaces f_howManyEvents f_eventWhat f_eventNumber g_places g_kinds g_weights g_howManyGenerators g_generators g_racks g_howManySeen g_seenFirst g_seenSecond g_seenIs g_seenPlaces g_howManyEvents g_eventWhat g_eventNumber n_m0 n_m1 n_m2 n_s0 n_s1 n_s2 v_keys v_asFound v_found v_turns v_places p_keys p_asFound p_found p_turns p_places i_sort i_howOften i_sorts i_moves q t4.1 t4.2.1 t4.2.2.1 t4.2.2.2 n_wq n_w w_leasts w_howMany w_known t_signs t_length t_whole t_begins t_ends r_sorts r_numbers r_length)) X E hI (c_X1_find l G (h 24) n_m0 n_m1 n_m2 e4) kv_X9_332 hd_X1_find ⟨rfl, rfl⟩ (by decide) pt_xb_cvw_0 (fun _ => pt_xb_cvw_0q) 0 rfl rfl rfl rfl hl.1 rfl (Nat.le_of_ble_eq_true rfl) dX9_classesBy_40 ⟨Nat.le_of_ble_eq_true rfl, Nat.le_of_ble_eq_true rfl⟩ rfl (fun q4 H locs hI => ?_)
      have hI : IN A G ((xb G h x_hasImage f_places f_kinds f_weights f_howManyGenerators f_generators f_racks f_howManySeen f_seenFirst f_seenSecond f_seenIs f_seenPlaces f_howManyEvents f_eventWhat f_eventNumber g_places g_kinds g_weights g_howManyGenerators g_generators g_racks g_howManySeen g_seenFirst g_seenSecond g_seenIs g_seenPlaces g_howManyEvents g_eventWhat g_eventNumber n_m0 n_m1 n_m2 n_s0 n_s1 n_s2 v_keys v_asFound v_found v_turns v_places p_keys p_asFound p_found p_turns p_places i_sort i_howOften i_sorts i_moves q4 t4.1 t4.2.1 t4.2.2.1 t4.2.2.2 n_wq n_w w_leasts w_howMany w_known t_signs t_length t_whole t_begins t_ends r_sorts r_numbers r_length) ++ wo) s H locs := hI
      refine lv_aload_n (pc := 43) hx hb dX9_classesBy_43 rfl (lv_at hl 0 rfl) ?_
      obtain rfl := Option.some.inj hf
      exact x_aretE q4 X hI dX9_classesBy_44

abbrev rm_X9_classesBy_1 : Room := { frames := 3, cells := 1, slots := 4096, locals := 74 }
set_option maxHeartbeats 4000000 in
set_option maxRecDepth 100000 in
theorem c_X9_classesBy_1 (l : Launch) (G : GX) (h : Nat → Nat) {f_places : Int32} {f_kinds : Int32} {v_keys : Nat → Int32} {v_found : Int32} {v_places : Int32} {n_w : Nat} {w_leasts : Nat → Int32} {w_howMany : Int32} {w_known : Int32} {x_hasImage : Int32} {f_weights : Nat → Int32} {f_howManyGenerators : Int32} {f_generators : Nat → Int32} {f_racks : Nat → Int32} {f_howManySeen : Int32} {f_seenFirst : Nat → Int32} {f_seenSecond : Nat → Int32} {f_seenIs : Nat → Int32} {f_seenPlaces : Nat → Int32} {f_howManyEvents : Int32} {f_eventWhat : Nat → Int32} {f_eventNumber : Nat → Int32} {g_places : Int32} {g_kinds : Int32} {g_weights : Nat → Int32} {g_howManyGenerators : Int32} {g_generators : Nat → Int32} {g_racks : Nat → Int32} {g_howManySeen : Int32} {g_seenFirst : Nat → Int32} {g_seenSecond : Nat → Int32} {g_seenIs : Nat → Int32} {g_seenPlaces : Nat → Int32} {g_howManyEvents : Int32} {g_eventWhat : Nat → Int32} {g_eventNumber : Nat → Int32} {n_m0 : Nat} {n_m1 : Nat} {n_m2 : Nat} {n_s0 : Nat} {n_s1 : Nat} {n_s2 : Nat} {v_asFound : Nat → Int32} {v_turns : Int32} {p_keys : Nat → Int32} {p_asFound : Nat → Int32} {p_found : Int32} {p_turns : Int32} {p_places : Int32} {i_sort : Nat → Int32} {i_howOften : Nat → Int32} {i_sorts : Int32} {i_moves : Int32} {n_uq : Nat} {n_u : Nat} {u_leasts : Nat → Int32} {u_howMany : Int32} {u_known : Int32} {n_wq : Nat} {t_signs : Nat → Int32} {t_length : Int32} {t_whole : Int32} {t_begins : Nat → Int32} {t_ends : Nat → Int32} {r_sorts : Nat → Int32} {r_numbers : Nat → Int32} {r_length : Int32} {wo : va_W} {res : Nat × (Nat → Int32) × Int32 × Int32} (hf : f_X9_classesBy_1 f_places f_kinds v_keys v_found v_places n_w w_leasts w_howMany w_known = some res) : ME l yX9_classesBy cX9_classesBy 3 (some (.object "PaintFrames$Classes")) rm_X9_classesBy_1 G ((xb G h x_hasImage f_places f_kinds f_weights f_howManyGenerators f_generators f_racks f_howManySeen f_seenFirst f_seenSecond f_seenIs f_seenPlaces f_howManyEvents f_eventWhat f_eventNumber g_places g_kinds g_weights g_howManyGenerators g_generators g_racks g_howManySeen g_seenFirst g_seenSecond g_seenIs g_seenPlaces g_howManyEvents g_eventWhat g_eventNumber n_m0 n_m1 n_m2 n_s0 n_s1 n_s2 v_keys v_asFound v_found v_turns v_places p_keys p_asFound p_found p_turns p_places i_sort i_howOften i_sorts i_moves n_uq n_u u_leasts u_howMany u_known n_wq n_w w_leasts w_howMany w_known t_signs t_length t_whole t_begins t_ends r_sorts r_numbers r_length) ++ wo) [.ref (h 0), .int 1] (fun q : Nat => ((xb G h x_hasImage f_places f_kinds f_weights f_howManyGenerators f_generators f_racks f_howManySeen f_seenFirst f_seenSecond f_seenIs f_seenPlaces f_howManyEvents f_eventWhat f_eventNumber g_places g_kinds g_weights g_howManyGenerators g_generators g_racks g_howManySeen g_seenFirst g_seenSecond g_seenIs g_seenPlaces g_howManyEvents g_eventWhat g_eventNumber n_m0 n_m1 n_m2 n_s0 n_s1 n_s2 v_keys v_asFound v_found v_turns v_places p_keys p_asFound p_found p_turns p_places i_sort i_howOften i_sorts i_moves n_uq n_u u_leasts u_howMany u_known q res.1 res.2.1 res.2.2.1 res.2.2.2 t_signs t_length t_whole t_begins t_ends r_sorts r_numbers r_length) ++ wo)) (some (.ref (h 25))) 1 4096 := by
  refine ME.of (plainFor_of_name (by decide)) (Nat.le_of_ble_eq_true rfl) ?_
  intro p e s m below meth c A X E hI ls hl
  obtain ⟨hx, hb, hml, hown, hts, hr, hlk⟩ := id X
  have hl : lv_has ls 3 [(0, .ref (h 0)), (1, .int 1)] := hl
  unfold f_X9_classesBy_1 at hf
  refine lv_iload_n (pc := 0) hx hb dX9_classesBy_0 rfl (lv_at hl 1 rfl) ?_
  refine lv_if_ne (pc := 1) (tgt := 11) hx hb dX9_classesBy_1 (by decide) (fun c1 => ?_) (fun c1 => ?_)
  · refine lv_aload_n (pc := 11) hx hb dX9_classesBy_11 rfl (lv_at hl 0 rfl) ?_
    refine x_get (pc := 12) X E hI inX9 0 rfl rfl 7 (by decide) tw_2_14 rfl dX9_classesBy_12 ?_
    refine lv_astore_n (pc := 15) (lv' := [(2, .ref (h 25)), (0, .ref (h 0)), (1, .int 1)]) hx hb dX9_classesBy_15 rfl hl (by decide) rfl (fun ls hl => ?_)
    refine lv_aload_n (pc := 16) hx hb dX9_classesBy_16 rfl (lv_at hl 0 rfl) ?_
    refine x_get (pc := 17) X E hI inX1 32 rfl rfl 2 (by decide) tw_1_154 rfl dX9_classesBy_17 ?_
    refine lv_if_ne (pc := 20) (tgt := 43) hx hb dX9_classesBy_20 (by decide) (fun c2 => ?_) (fun c2 => ?_)
    · have hf := q_in c2 hf
      refine lv_aload_n (pc := 43) hx hb dX9_classesBy_43 rfl (lv_at hl 0 rfl) ?_
      obtain rfl := Option.some.inj hf
      refine W.widen (k := 1) (n := 4096) (by decide) (by decide) ?_
      exact x_aretE n_wq X hI dX9_classesBy_44
    · have hf := q_ip c2 hf
      refine lv_aload_n (pc := 23) hx hb dX9_classesBy_23 rfl (lv_at hl 0 rfl) ?_
      refine lv_aload_n (pc := 24) hx hb dX9_classesBy_24 rfl (lv_at hl 1 rfl) ?_
      refine x_get (pc := 25) X E hI inX9 0 rfl rfl 3 (by decide) tw_2_10 rfl dX9_classesBy_25 ?_
      refine lv_iload_n (pc := 28) hx hb dX9_classesBy_28 rfl (lv_at hl 2 rfl) ?_
      refine lv_aload_n (pc := 29) hx hb dX9_classesBy_29 rfl (lv_at hl 1 rfl) ?_
      refine x_get (pc := 30) X E hI inX9 0 rfl rfl 0 (by decide) tw_2_7 rfl dX9_classesBy_30 ?_
      refine x_get (pc := 33) X E hI inX3 1 rfl rfl 1 (by decide) tw_1_37 rfl dX9_classesBy_33 ?_
      refine lv_aload_n (pc := 36) hx hb dX9_classesBy_36 rfl (lv_at hl 1 rfl) ?_
      obtain ⟨t3, e3, hf⟩ := q_ob hf
      refine x_cVs (pc := 37) (st1 := [.int t3, .int f_kinds, .int 1, .ref n_m0, .ref (h 25)]) (w1 := ((xb G h x_hasImage f_places f_kinds f_weights f_howManyGenerators f_generators f_racks f_howManySeen f_seenFirst f_seenSecond f_seenIs f_seenPlaces f_howManyEvents f_eventWhat f_eventNumber g_places g_kinds g_weights g_howManyGenerators g_generators g_racks g_howManySeen g_seenFirst g_seenSecond g_seenIs g_seenPlaces g_howManyEvents g_eventWhat g_eventNumber n_m0 n_m1 n_m2 n_s0 n_s1 n_s2 v_keys v_asFound v_found v_turns v_places p_keys p_asFound p_found p_turns p_places i_sort i_howOften i_sorts i_moves n_uq n_u u_leasts u_howMany u_known n_wq n_w w_leasts w_howMany w_known t_signs t_length t_whole t_begins t_ends r_sorts r_numbers r_length) ++ wo)) X E hI (c_X9_paintings l G h e3) kv_X9_151 hd_X9_paintings ⟨rfl, rfl⟩ (by decide) 0 rfl rfl rfl rfl hl.1 rfl (Nat.le_of_ble_eq_true rfl) dX9_classesBy_37 ⟨Nat.le_of_ble_eq_true rfl, Nat.le_of_ble_eq_true rfl⟩ rfl (fun H locs hI => ?_)
      obtain ⟨t4, e4, hf⟩ := q_ob hf
      refine x_cVtE (pc := 40) (st1 := []) (w2 := fun q => (xb G h x_hasImage f_places f_kinds f_weights f_howManyGenerators f_generators f_racks f_howManySeen f_seenFirst f_seenSecond f_seenIs f_seenPlaces f_howManyEvents f_eventWhat f_eventNumber g_places g_kinds g_weights g_howManyGenerators g_generators g_racks g_howManySeen g_seenFirst g_seenSecond g_seenIs g_seenPlaces g_howManyEvents g_eventWhat g_eventNumber n_m0 n_m1 n_m2 n_s0 n_s1 n_s2 v_keys v_asFound v_found v_turns v_places p_keys p_asFound p_found p_turns p_places i_sort i_howOften i_sorts i_moves n_uq n_u u_leasts u_howMany u_known q t4.1 t4.2.1 t4.2.2.1 t4.2.2.2 t_signs t_length t_whole t_begins t_ends r_sorts r_numbers r_length)) X E hI (c_X1_find l G (h 25) n_m0 n_m1 n_m2 e4) kv_X9_332 hd_X1_find ⟨rfl, rfl⟩ (by decide) pt_xb_cvw_1 (fun _ => pt_xb_cvw_1q) 0 rfl rfl rfl rfl hl.1 rfl (Nat.le_of_ble_eq_true rfl) dX9_classesBy_40 ⟨Nat.le_of_ble_eq_true rfl, Nat.le_of_ble_eq_true rfl⟩ rfl (fun q4 H locs hI => ?_)
      have hI : IN A G ((xb G h x_hasImage f_places f_kinds f_weights f_howManyGenerators f_generators f_racks f_howManySeen f_seenFirst f_seenSecond f_seenIs f_seenPlaces f_howManyEvents f_eventWhat f_eventNumber g_places g_kinds g_weights g_howManyGenerators g_generators g_racks g_howManySeen g_seenFirst g_seenSecond g_seenIs g_seenPlaces g_howManyEvents g_eventWhat g_eventNumber n_m0 n_m1 n_m2 n_s0 n_s1 n_s2 v_keys v_asFound v_found v_turns v_places p_keys p_asFound p_found p_turns p_places i_sort i_howOften i_sorts i_moves n_uq n_u u_leasts u_howMany u_known q4 t4.1 t4.2.1 t4.2.2.1 t4.2.2.2 t_signs t_length t_whole t_begins t_ends r_sorts r_numbers r_length) ++ wo) s H locs := hI
      refine lv_aload_n (pc := 43) hx hb dX9_classesBy_43 rfl (lv_at hl 0 rfl) ?_
      obtain rfl := Option.some.inj hf
      exact x_aretE q4 X hI dX9_classesBy_44
  · exact absurd c1 (by decide)

abbrev rm_X9_places : Room := { frames := 3, cells := 0, slots := 0, locals := 83 }
set_option maxHeartbeats 4000000 in
set_option maxRecDepth 100000 in
theorem c_X9_places (l : Launch) (G : GX) (h : Nat → Nat) {l1 : Int32} {f_places : Int32} {f_howManyGenerators : Int32} {f_racks : Nat → Int32} {v_keys : Nat → Int32} {v_asFound : Nat → Int32} {v_found : Int32} {v_turns : Int32} {v_places : Int32} {u_known : Int32} {w_known : Int32} {x_hasImage : Int32} {f_kinds : Int32} {f_weights : Nat → Int32} {f_generators : Nat → Int32} {f_howManySeen : Int32} {f_seenFirst : Nat → Int32} {f_seenSecond : Nat → Int32} {f_seenIs : Nat → Int32} {f_seenPlaces : Nat → Int32} {f_howManyEvents : Int32} {f_eventWhat : Nat → Int32} {f_eventNumber : Nat → Int32} {g_places : Int32} {g_kinds : Int32} {g_weights : Nat → Int32} {g_howManyGenerators : Int32} {g_generators : Nat → Int32} {g_racks : Nat → Int32} {g_howManySeen : Int32} {g_seenFirst : Nat → Int32} {g_seenSecond : Nat → Int32} {g_seenIs : Nat → Int32} {g_seenPlaces : Nat → Int32} {g_howManyEvents : Int32} {g_eventWhat : Nat → Int32} {g_eventNumber : Nat → Int32} {n_m0 : Nat} {n_m1 : Nat} {n_m2 : Nat} {n_s0 : Nat} {n_s1 : Nat} {n_s2 : Nat} {p_keys : Nat → Int32} {p_asFound : Nat → Int32} {p_found : Int32} {p_turns : Int32} {p_places : Int32} {i_sort : Nat → Int32} {i_howOften : Nat → Int32} {i_sorts : Int32} {i_moves : Int32} {n_uq : Nat} {n_u : Nat} {u_leasts : Nat → Int32} {u_howMany : Int32} {n_wq : Nat} {n_w : Nat} {w_leasts : Nat → Int32} {w_howMany : Int32} {t_signs : Nat → Int32} {t_length : Int32} {t_whole : Int32} {t_begins : Nat → Int32} {t_ends : Nat → Int32} {r_sorts : Nat → Int32} {r_numbers : Nat → Int32} {r_length : Int32} {wo : va_W} {res : Int32 × Int32 × Int32 × (Nat → Int32) × (Nat → Int32) × (Nat → Int32) × Int32 × Int32 × Int32 × Int32 × Int32} (hf : f_X9_places l1 f_places f_howManyGenerators f_racks v_keys v_asFound v_found v_turns v_places u_known w_known = some res) : MX l yX9_places cX9_places 3 (some .int) rm_X9_places G ((xb G h x_hasImage f_places f_kinds f_weights f_howManyGenerators f_generators f_racks f_howManySeen f_seenFirst f_seenSecond f_seenIs f_seenPlaces f_howManyEvents f_eventWhat f_eventNumber g_places g_kinds g_weights g_howManyGenerators g_generators g_racks g_howManySeen g_seenFirst g_seenSecond g_seenIs g_seenPlaces g_howManyEvents g_eventWhat g_eventNumber n_m0 n_m1 n_m2 n_s0 n_s1 n_s2 v_keys v_asFound v_found v_turns v_places p_keys p_asFound p_found p_turns p_places i_sort i_howOften i_sorts i_moves n_uq n_u u_leasts u_howMany u_known n_wq n_w w_leasts w_howMany w_known t_signs t_length t_whole t_begins t_ends r_sorts r_numbers r_length) ++ wo) [.ref (h 0), .int l1] ((xb G h x_hasImage res.2.1 f_kinds f_weights res.2.2.1 f_generators res.2.2.2.1 f_howManySeen f_seenFirst f_seenSecond f_seenIs f_seenPlaces f_howManyEvents f_eventWhat f_eventNumber g_places g_kinds g_weights g_howManyGenerators g_generators g_racks g_howManySeen g_seenFirst g_seenSecond g_seenIs g_seenPlaces g_howManyEvents g_eventWhat g_eventNumber n_m0 n_m1 n_m2 n_s0 n_s1 n_s2 res.2.2.2.2.1 res.2.2.2.2.2.1 res.2.2.2.2.2.2.1 res.2.2.2.2.2.2.2.1 res.2.2.2.2.2.2.2.2.1 p_keys p_asFound p_found p_turns p_places i_sort i_howOften i_sorts i_moves n_uq n_u u_leasts u_howMany res.2.2.2.2.2.2.2.2.2.1 n_wq n_w w_leasts w_howMany res.2.2.2.2.2.2.2.2.2.2 t_signs t_length t_whole t_begins t_ends r_sorts r_numbers r_length) ++ wo) (some (.int res.1)) 0 0 := by
  refine MX.of (plainFor_of_name (by decide)) (Nat.le_of_ble_eq_true rfl) ?_
  intro p e s m below meth c A X E hI ls hl
  obtain ⟨hx, hb, hml, hown, hts, hr, hlk⟩ := id X
  have hl : lv_has ls 3 [(0, .ref (h 0)), (1, .int l1)] := hl
  unfold f_X9_places at hf
  refine lv_iload_n (pc := 0) hx hb dX9_places_0 rfl (lv_at hl 1 rfl) ?_
  refine lv_iconst (pc := 1) (v := 2) hx hb dX9_places_1 (by decide) ?_
  refine lv_icmp_lt (pc := 2) (tgt := 11) hx hb dX9_places_2 (by decide) (fun c1 => ?_) (fun c1 => ?_)
  · have hf := q_ip c1 hf
    refine lv_bipush (pc := 11) (v := (-2)) hx hb dX9_places_11 (by decide) ?_
    obtain rfl := Option.some.inj hf
    exact x_iret X hI dX9_places_13
  · have hf := q_in c1 hf
    refine lv_iload_n (pc := 5) hx hb dX9_places_5 rfl (lv_at hl 1 rfl) ?_
    refine lv_bipush (pc := 6) (v := 6) hx hb dX9_places_6 (by decide) ?_
    refine lv_icmp_le (pc := 8) (tgt := 14) hx hb dX9_places_8 (by decide) (fun c2 => ?_) (fun c2 => ?_)
    · have hf := q_ip c2 hf
      refine lv_aload_n (pc := 14) hx hb dX9_places_14 rfl (lv_at hl 0 rfl) ?_
      refine x_get (pc := 15) X E hI inX9 0 rfl rfl 0 (by decide) tw_2_7 rfl dX9_places_15 ?_
      refine x_get (pc := 18) X E hI inX3 1 rfl rfl 0 (by decide) tw_1_35 rfl dX9_places_18 ?_
      refine lv_istore_n (pc := 21) (lv' := [(2, .int f_places), (0, .ref (h 0)), (1, .int l1)]) hx hb dX9_places_21 rfl hl (by decide) rfl (fun ls hl => ?_)
      refine lv_aload_n (pc := 22) hx hb dX9_places_22 rfl (lv_at hl 1 rfl) ?_
      refine x_get (pc := 23) X E hI inX9 0 rfl rfl 0 (by decide) tw_2_7 rfl dX9_places_23 ?_
      refine lv_iload_n (pc := 26) hx hb dX9_places_26 rfl (lv_at hl 2 rfl) ?_
      refine x_put (pc := 27) (w' := ((xb G h x_hasImage l1 f_kinds f_weights f_howManyGenerators f_generators f_racks f_howManySeen f_seenFirst f_seenSecond f_seenIs f_seenPlaces f_howManyEvents f_eventWhat f_eventNumber g_places g_kinds g_weights g_howManyGenerators g_generators g_racks g_howManySeen g_seenFirst g_seenSecond g_seenIs g_seenPlaces g_howManyEvents g_eventWhat g_eventNumber n_m0 n_m1 n_m2 n_s0 n_s1 n_s2 v_keys v_asFound v_found v_turns v_places p_keys p_asFound p_found p_turns p_places i_sort i_howOften i_sorts i_moves n_uq n_u u_leasts u_howMany u_known n_wq n_w w_leasts w_howMany w_known t_signs t_length t_whole t_begins t_ends r_sorts r_numbers r_length) ++ wo)) X E hI inX3 tyX3 tyX3_ok nmX3 1 rfl rfl 0 (by decide) tw_1_35 rfl rfl rfl (Nat.le_of_ble_eq_true rfl) rfl dX9_places_27 (fun H locs hI => ?_)
      refine lv_aload_n (pc := 30) hx hb dX9_places_30 rfl (lv_at hl 1 rfl) ?_
      refine x_get (pc := 31) X E hI inX9 0 rfl rfl 0 (by decide) tw_2_7 rfl dX9_places_31 ?_
      refine lv_iconst (pc := 34) (v := 0) hx hb dX9_places_34 (by decide) ?_
      refine x_put (pc := 35) (w' := ((xb G h x_hasImage l1 f_kinds f_weights 0 f_generators f_racks f_howManySeen f_seenFirst f_seenSecond f_seenIs f_seenPlaces f_howManyEvents f_eventWhat f_eventNumber g_places g_kinds g_weights g_howManyGenerators g_generators g_racks g_howManySeen g_seenFirst g_seenSecond g_seenIs g_seenPlaces g_howManyEvents g_eventWhat g_eventNumber n_m0 n_m1 n_m2 n_s0 n_s1 n_s2 v_keys v_asFound v_found v_turns v_places p_keys p_asFound p_found p_turns p_places i_sort i_howOften i_sorts i_moves n_uq n_u u_leasts u_howMany u_known n_wq n_w w_leasts w_howMany w_known t_signs t_length t_whole t_begins t_ends r_sorts r_numbers r_length) ++ wo)) X E hI inX3 tyX3 tyX3_ok nmX3 1 rfl rfl 3 (by decide) tw_1_40 rfl rfl rfl (Nat.le_of_ble_eq_true rfl) rfl dX9_places_35 (fun H locs hI => ?_)
      refine lv_aload_n (pc := 38) hx hb dX9_places_38 rfl (lv_at hl 1 rfl) ?_
      refine x_get (pc := 39) X E hI inX9 0 rfl rfl 0 (by decide) tw_2_7 rfl dX9_places_39 ?_
      obtain ⟨t3, e3, hf⟩ := q_ob hf
      refine x_cVt (pc := 42) (st1 := []) (w2 := (xb G h x_hasImage l1 f_kinds f_weights 0 f_generators t3 f_howManySeen f_seenFirst f_seenSecond f_seenIs f_seenPlaces f_howManyEvents f_eventWhat f_eventNumber g_places g_kinds g_weights g_howManyGenerators g_generators g_racks g_howManySeen g_seenFirst g_seenSecond g_seenIs g_seenPlaces g_howManyEvents g_eventWhat g_eventNumber n_m0 n_m1 n_m2 n_s0 n_s1 n_s2 v_keys v_asFound v_found v_turns v_places p_keys p_asFound p_found p_turns p_places i_sort i_howOften i_sorts i_moves n_uq n_u u_leasts u_howMany u_known n_wq n_w w_leasts w_howMany w_known t_signs t_length t_whole t_begins t_ends r_sorts r_numbers r_length)) X E hI (c_X3_emptyRacks l G (h 1) (h 2) (h 3) (h 4) (h 5) (h 6) (h 7) (h 8) (h 9) (h 10) e3) kv_X9_80 hd_X3_emptyRacks ⟨rfl, rfl⟩ (by decide) pt_xb_fw_0 pt_xb_fw_0q 0 rfl rfl rfl rfl hl.1 rfl (Nat.le_of_ble_eq_true rfl) dX9_places_42 ⟨Nat.le_of_ble_eq_true rfl, Nat.le_of_ble_eq_true rfl⟩ rfl (fun H locs hI => ?_)
      refine lv_aload_n (pc := 45) hx hb dX9_places_45 rfl (lv_at hl 1 rfl) ?_
      refine x_get (pc := 46) X E hI inX9 0 rfl rfl 3 (by decide) tw_2_10 rfl dX9_places_46 ?_
      refine lv_iload_n (pc := 49) hx hb dX9_places_49 rfl (lv_at hl 2 rfl) ?_
      obtain ⟨t4, e4, hf⟩ := q_ob hf
      refine x_cVt (pc := 50) (st1 := []) (w2 := (xb G h x_hasImage l1 f_kinds f_weights 0 f_generators t3 f_howManySeen f_seenFirst f_seenSecond f_seenIs f_seenPlaces f_howManyEvents f_eventWhat f_eventNumber g_places g_kinds g_weights g_howManyGenerators g_generators g_racks g_howManySeen g_seenFirst g_seenSecond g_seenIs g_seenPlaces g_howManyEvents g_eventWhat g_eventNumber n_m0 n_m1 n_m2 n_s0 n_s1 n_s2 t4.1 t4.2.1 t4.2.2.1 t4.2.2.2.1 t4.2.2.2.2 p_keys p_asFound p_found p_turns p_places i_sort i_howOften i_sorts i_moves n_uq n_u u_leasts u_howMany u_known n_wq n_w w_leasts w_howMany w_known t_signs t_length t_whole t_begins t_ends r_sorts r_numbers r_length)) X E hI (c_X5_begin l G n_m0 n_m1 n_m2 e4) kv_X9_73 hd_X5_begin ⟨rfl, rfl⟩ (by decide) pt_xb_vw_0 pt_xb_vw_0q 0 rfl rfl rfl rfl hl.1 rfl (Nat.le_of_ble_eq_true rfl) dX9_places_50 ⟨Nat.le_of_ble_eq_true rfl, Nat.le_of_ble_eq_true rfl⟩ rfl (fun H locs hI => ?_)
      refine lv_aload_n (pc := 53) hx hb dX9_places_53 rfl (lv_at hl 1 rfl) ?_
      obtain ⟨t5, e5, hf⟩ := q_ob hf
      refine x_cVs (pc := 54) (st1 := []) (w1 := ((xb G h x_hasImage l1 f_kinds f_weights 0 f_generators t3 f_howManySeen f_seenFirst f_seenSecond f_seenIs f_seenPlaces f_howManyEvents f_eventWhat f_eventNumber g_places g_kinds g_weights g_howManyGenerators g_generators g_racks g_howManySeen g_seenFirst g_seenSecond g_seenIs g_seenPlaces g_howManyEvents g_eventWhat g_eventNumber n_m0 n_m1 n_m2 n_s0 n_s1 n_s2 t4.1 t4.2.1 t4.2.2.1 t4.2.2.2.1 t4.2.2.2.2 p_keys p_asFound p_found p_turns p_places i_sort i_howOften i_sorts i_moves n_uq n_u u_leasts u_howMany t5.1 n_wq n_w w_leasts w_howMany t5.2 t_signs t_length t_whole t_begins t_ends r_sorts r_numbers r_length) ++ wo)) X E hI (c_X9_forgetClasses l G h e5) kv_X9_83 hd_X9_forgetClasses ⟨rfl, rfl⟩ (by decide) 0 rfl rfl rfl rfl hl.1 rfl (Nat.le_of_ble_eq_true rfl) dX9_places_54 ⟨Nat.le_of_ble_eq_true rfl, Nat.le_of_ble_eq_true rfl⟩ rfl (fun H locs hI => ?_)
      refine lv_iload_n (pc := 57) hx hb dX9_places_57 rfl (lv_at hl 0 rfl) ?_
      obtain rfl := Option.some.inj hf
      exact x_iret X hI dX9_places_58
    · have hf := q_in c2 hf
      refine lv_bipush (pc := 11) (v := (-2)) hx hb dX9_places_11 (by decide) ?_
      obtain rfl := Option.some.inj hf
      exact x_iret X hI dX9_places_13

abbrev rm_X9_kinds : Room := { frames := 1, cells := 0, slots := 0, locals := 20 }
set_option maxHeartbeats 4000000 in
set_option maxRecDepth 100000 in
theorem c_X9_kinds (l : Launch) (G : GX) (h : Nat → Nat) {l1 : Int32} {f_kinds : Int32} {u_known : Int32} {w_known : Int32} {x_hasImage : Int32} {f_places : Int32} {f_weights : Nat → Int32} {f_howManyGenerators : Int32} {f_generators : Nat → Int32} {f_racks : Nat → Int32} {f_howManySeen : Int32} {f_seenFirst : Nat → Int32} {f_seenSecond : Nat → Int32} {f_seenIs : Nat → Int32} {f_seenPlaces : Nat → Int32} {f_howManyEvents : Int32} {f_eventWhat : Nat → Int32} {f_eventNumber : Nat → Int32} {g_places : Int32} {g_kinds : Int32} {g_weights : Nat → Int32} {g_howManyGenerators : Int32} {g_generators : Nat → Int32} {g_racks : Nat → Int32} {g_howManySeen : Int32} {g_seenFirst : Nat → Int32} {g_seenSecond : Nat → Int32} {g_seenIs : Nat → Int32} {g_seenPlaces : Nat → Int32} {g_howManyEvents : Int32} {g_eventWhat : Nat → Int32} {g_eventNumber : Nat → Int32} {n_m0 : Nat} {n_m1 : Nat} {n_m2 : Nat} {n_s0 : Nat} {n_s1 : Nat} {n_s2 : Nat} {v_keys : Nat → Int32} {v_asFound : Nat → Int32} {v_found : Int32} {v_turns : Int32} {v_places : Int32} {p_keys : Nat → Int32} {p_asFound : Nat → Int32} {p_found : Int32} {p_turns : Int32} {p_places : Int32} {i_sort : Nat → Int32} {i_howOften : Nat → Int32} {i_sorts : Int32} {i_moves : Int32} {n_uq : Nat} {n_u : Nat} {u_leasts : Nat → Int32} {u_howMany : Int32} {n_wq : Nat} {n_w : Nat} {w_leasts : Nat → Int32} {w_howMany : Int32} {t_signs : Nat → Int32} {t_length : Int32} {t_whole : Int32} {t_begins : Nat → Int32} {t_ends : Nat → Int32} {r_sorts : Nat → Int32} {r_numbers : Nat → Int32} {r_length : Int32} {wo : va_W} {res : Int32 × Int32 × Int32 × Int32} (hf : f_X9_kinds l1 f_kinds u_known w_known = some res) : MX l yX9_kinds cX9_kinds 3 (some .int) rm_X9_kinds G ((xb G h x_hasImage f_places f_kinds f_weights f_howManyGenerators f_generators f_racks f_howManySeen f_seenFirst f_seenSecond f_seenIs f_seenPlaces f_howManyEvents f_eventWhat f_eventNumber g_places g_kinds g_weights g_howManyGenerators g_generators g_racks g_howManySeen g_seenFirst g_seenSecond g_seenIs g_seenPlaces g_howManyEvents g_eventWhat g_eventNumber n_m0 n_m1 n_m2 n_s0 n_s1 n_s2 v_keys v_asFound v_found v_turns v_places p_keys p_asFound p_found p_turns p_places i_sort i_howOften i_sorts i_moves n_uq n_u u_leasts u_howMany u_known n_wq n_w w_leasts w_howMany w_known t_signs t_length t_whole t_begins t_ends r_sorts r_numbers r_length) ++ wo) [.ref (h 0), .int l1] ((xb G h x_hasImage f_places res.2.1 f_weights f_howManyGenerators f_generators f_racks f_howManySeen f_seenFirst f_seenSecond f_seenIs f_seenPlaces f_howManyEvents f_eventWhat f_eventNumber g_places g_kinds g_weights g_howManyGenerators g_generators g_racks g_howManySeen g_seenFirst g_seenSecond g_seenIs g_seenPlaces g_howManyEvents g_eventWhat g_eventNumber n_m0 n_m1 n_m2 n_s0 n_s1 n_s2 v_keys v_asFound v_found v_turns v_places p_keys p_asFound p_found p_turns p_places i_sort i_howOften i_sorts i_moves n_uq n_u u_leasts u_howMany res.2.2.1 n_wq n_w w_leasts w_howMany res.2.2.2 t_signs t_length t_whole t_begins t_ends r_sorts r_numbers r_length) ++ wo) (some (.int res.1)) 0 0 := by
  refine MX.of (plainFor_of_name (by decide)) (Nat.le_of_ble_eq_true rfl) ?_
  intro p e s m below meth c A X E hI ls hl
  obtain ⟨hx, hb, hml, hown, hts, hr, hlk⟩ := id X
  have hl : lv_has ls 3 [(0, .ref (h 0)), (1, .int l1)] := hl
  unfold f_X9_kinds at hf
  refine lv_iload_n (pc := 0) hx hb dX9_kinds_0 rfl (lv_at hl 1 rfl) ?_
  refine lv_iconst (pc := 1) (v := 1) hx hb dX9_kinds_1 (by decide) ?_
  refine lv_icmp_lt (pc := 2) (tgt := 10) hx hb dX9_kinds_2 (by decide) (fun c1 => ?_) (fun c1 => ?_)
  · have hf := q_ip c1 hf
    refine lv_bipush (pc := 10) (v := (-2)) hx hb dX9_kinds_10 (by decide) ?_
    obtain rfl := Option.some.inj hf
    exact x_iret X hI dX9_kinds_12
  · have hf := q_in c1 hf
    refine lv_iload_n (pc := 5) hx hb dX9_kinds_5 rfl (lv_at hl 1 rfl) ?_
    refine lv_iconst (pc := 6) (v := 4) hx hb dX9_kinds_6 (by decide) ?_
    refine lv_icmp_le (pc := 7) (tgt := 13) hx hb dX9_kinds_7 (by decide) (fun c2 => ?_) (fun c2 => ?_)
    · have hf := q_ip c2 hf
      refine lv_aload_n (pc := 13) hx hb dX9_kinds_13 rfl (lv_at hl 0 rfl) ?_
      refine x_get (pc := 14) X E hI inX9 0 rfl rfl 0 (by decide) tw_2_7 rfl dX9_kinds_14 ?_
      refine x_get (pc := 17) X E hI inX3 1 rfl rfl 1 (by decide) tw_1_37 rfl dX9_kinds_17 ?_
      refine lv_istore_n (pc := 20) (lv' := [(2, .int f_kinds), (0, .ref (h 0)), (1, .int l1)]) hx hb dX9_kinds_20 rfl hl (by decide) rfl (fun ls hl => ?_)
      refine lv_aload_n (pc := 21) hx hb dX9_kinds_21 rfl (lv_at hl 1 rfl) ?_
      refine x_get (pc := 22) X E hI inX9 0 rfl rfl 0 (by decide) tw_2_7 rfl dX9_kinds_22 ?_
      refine lv_iload_n (pc := 25) hx hb dX9_kinds_25 rfl (lv_at hl 2 rfl) ?_
      refine x_put (pc := 26) (w' := ((xb G h x_hasImage f_places l1 f_weights f_howManyGenerators f_generators f_racks f_howManySeen f_seenFirst f_seenSecond f_seenIs f_seenPlaces f_howManyEvents f_eventWhat f_eventNumber g_places g_kinds g_weights g_howManyGenerators g_generators g_racks g_howManySeen g_seenFirst g_seenSecond g_seenIs g_seenPlaces g_howManyEvents g_eventWhat g_eventNumber n_m0 n_m1 n_m2 n_s0 n_s1 n_s2 v_keys v_asFound v_found v_turns v_places p_keys p_asFound p_found p_turns p_places i_sort i_howOften i_sorts i_moves n_uq n_u u_leasts u_howMany u_known n_wq n_w w_leasts w_howMany w_known t_signs t_length t_whole t_begins t_ends r_sorts r_numbers r_length) ++ wo)) X E hI inX3 tyX3 tyX3_ok nmX3 1 rfl rfl 1 (by decide) tw_1_37 rfl rfl rfl (Nat.le_of_ble_eq_true rfl) rfl dX9_kinds_26 (fun H locs hI => ?_)
      refine lv_aload_n (pc := 29) hx hb dX9_kinds_29 rfl (lv_at hl 1 rfl) ?_
      obtain ⟨t3, e3, hf⟩ := q_ob hf
      refine x_cVs (pc := 30) (st1 := []) (w1 := ((xb G h x_hasImage f_places l1 f_weights f_howManyGenerators f_generators f_racks f_howManySeen f_seenFirst f_seenSecond f_seenIs f_seenPlaces f_howManyEvents f_eventWhat f_eventNumber g_places g_kinds g_weights g_howManyGenerators g_generators g_racks g_howManySeen g_seenFirst g_seenSecond g_seenIs g_seenPlaces g_howManyEvents g_eventWhat g_eventNumber n_m0 n_m1 n_m2 n_s0 n_s1 n_s2 v_keys v_asFound v_found v_turns v_places p_keys p_asFound p_found p_turns p_places i_sort i_howOften i_sorts i_moves n_uq n_u u_leasts u_howMany t3.1 n_wq n_w w_leasts w_howMany t3.2 t_signs t_length t_whole t_begins t_ends r_sorts r_numbers r_length) ++ wo)) X E hI (c_X9_forgetClasses l G h e3) kv_X9_83 hd_X9_forgetClasses ⟨rfl, rfl⟩ (by decide) 0 rfl rfl rfl rfl hl.1 rfl (Nat.le_of_ble_eq_true rfl) dX9_kinds_30 ⟨Nat.le_of_ble_eq_true rfl, Nat.le_of_ble_eq_true rfl⟩ rfl (fun H locs hI => ?_)
      refine lv_iload_n (pc := 33) hx hb dX9_kinds_33 rfl (lv_at hl 0 rfl) ?_
      obtain rfl := Option.some.inj hf
      exact x_iret X hI dX9_kinds_34
    · have hf := q_in c2 hf
      refine lv_bipush (pc := 10) (v := (-2)) hx hb dX9_kinds_10 (by decide) ?_
      obtain rfl := Option.some.inj hf
      exact x_iret X hI dX9_kinds_12

abbrev rm_X9_weight : Room := { frames := 0, cells := 0, slots := 0, locals := 0 }
set_option maxHeartbeats 4000000 in
set_option maxRecDepth 100000 in
theorem c_X9_weight (l : Launch) (G : GX) (h : Nat → Nat) {l1 : Int32} {l2 : Int32} {f_weights : Nat → Int32} {x_hasImage : Int32} {f_places : Int32} {f_kinds : Int32} {f_howManyGenerators : Int32} {f_generators : Nat → Int32} {f_racks : Nat → Int32} {f_howManySeen : Int32} {f_seenFirst : Nat → Int32} {f_seenSecond : Nat → Int32} {f_seenIs : Nat → Int32} {f_seenPlaces : Nat → Int32} {f_howManyEvents : Int32} {f_eventWhat : Nat → Int32} {f_eventNumber : Nat → Int32} {g_places : Int32} {g_kinds : Int32} {g_weights : Nat → Int32} {g_howManyGenerators : Int32} {g_generators : Nat → Int32} {g_racks : Nat → Int32} {g_howManySeen : Int32} {g_seenFirst : Nat → Int32} {g_seenSecond : Nat → Int32} {g_seenIs : Nat → Int32} {g_seenPlaces : Nat → Int32} {g_howManyEvents : Int32} {g_eventWhat : Nat → Int32} {g_eventNumber : Nat → Int32} {n_m0 : Nat} {n_m1 : Nat} {n_m2 : Nat} {n_s0 : Nat} {n_s1 : Nat} {n_s2 : Nat} {v_keys : Nat → Int32} {v_asFound : Nat → Int32} {v_found : Int32} {v_turns : Int32} {v_places : Int32} {p_keys : Nat → Int32} {p_asFound : Nat → Int32} {p_found : Int32} {p_turns : Int32} {p_places : Int32} {i_sort : Nat → Int32} {i_howOften : Nat → Int32} {i_sorts : Int32} {i_moves : Int32} {n_uq : Nat} {n_u : Nat} {u_leasts : Nat → Int32} {u_howMany : Int32} {u_known : Int32} {n_wq : Nat} {n_w : Nat} {w_leasts : Nat → Int32} {w_howMany : Int32} {w_known : Int32} {t_signs : Nat → Int32} {t_length : Int32} {t_whole : Int32} {t_begins : Nat → Int32} {t_ends : Nat → Int32} {r_sorts : Nat → Int32} {r_numbers : Nat → Int32} {r_length : Int32} {wo : va_W} {res : Int32 × (Nat → Int32)} (hf : f_X9_weight l1 l2 f_weights = some res) : MX l yX9_weight cX9_weight 4 (some .int) rm_X9_weight G ((xb G h x_hasImage f_places f_kinds f_weights f_howManyGenerators f_generators f_racks f_howManySeen f_seenFirst f_seenSecond f_seenIs f_seenPlaces f_howManyEvents f_eventWhat f_eventNumber g_places g_kinds g_weights g_howManyGenerators g_generators g_racks g_howManySeen g_seenFirst g_seenSecond g_seenIs g_seenPlaces g_howManyEvents g_eventWhat g_eventNumber n_m0 n_m1 n_m2 n_s0 n_s1 n_s2 v_keys v_asFound v_found v_turns v_places p_keys p_asFound p_found p_turns p_places i_sort i_howOften i_sorts i_moves n_uq n_u u_leasts u_howMany u_known n_wq n_w w_leasts w_howMany w_known t_signs t_length t_whole t_begins t_ends r_sorts r_numbers r_length) ++ wo) [.ref (h 0), .int l1, .int l2] ((xb G h x_hasImage f_places f_kinds res.2 f_howManyGenerators f_generators f_racks f_howManySeen f_seenFirst f_seenSecond f_seenIs f_seenPlaces f_howManyEvents f_eventWhat f_eventNumber g_places g_kinds g_weights g_howManyGenerators g_generators g_racks g_howManySeen g_seenFirst g_seenSecond g_seenIs g_seenPlaces g_howManyEvents g_eventWhat g_eventNumber n_m0 n_m1 n_m2 n_s0 n_s1 n_s2 v_keys v_asFound v_found v_turns v_places p_keys p_asFound p_found p_turns p_places i_sort i_howOften i_sorts i_moves n_uq n_u u_leasts u_howMany u_known n_wq n_w w_leasts w_howMany w_known t_signs t_length t_whole t_begins t_ends r_sorts r_numbers r_length) ++ wo) (some (.int res.1)) 0 0 := by
  refine MX.of (plainFor_of_name (by decide)) (Nat.le_of_ble_eq_true rfl) ?_
  intro p e s m below meth c A X E hI ls hl
  obtain ⟨hx, hb, hml, hown, hts, hr, hlk⟩ := id X
  have hl : lv_has ls 4 [(0, .ref (h 0)), (1, .int l1), (2, .int l2)] := hl
  unfold f_X9_weight at hf
  refine lv_iload_n (pc := 0) hx hb dX9_weight_0 rfl (lv_at hl 1 rfl) ?_
  refine lv_if_lt (pc := 1) (tgt := 9) hx hb dX9_weight_1 (by decide) (fun c1 => ?_) (fun c1 => ?_)
  · have hf := q_ip c1 hf
    refine lv_iconst (pc := 9) (v := (-1)) hx hb dX9_weight_9 (by decide) ?_
    obtain rfl := Option.some.inj hf
    exact x_iret X hI dX9_weight_10
  · have hf := q_in c1 hf
    refine lv_iload_n (pc := 4) hx hb dX9_weight_4 rfl (lv_at hl 1 rfl) ?_
    refine lv_iconst (pc := 5) (v := 4) hx hb dX9_weight_5 (by decide) ?_
    refine lv_icmp_lt (pc := 6) (tgt := 11) hx hb dX9_weight_6 (by decide) (fun c2 => ?_) (fun c2 => ?_)
    · have hf := q_ip c2 hf
      refine lv_iload_n (pc := 11) hx hb dX9_weight_11 rfl (lv_at hl 2 rfl) ?_
      refine lv_if_lt (pc := 12) (tgt := 21) hx hb dX9_weight_12 (by decide) (fun c3 => ?_) (fun c3 => ?_)
      · have hf := q_ip c3 hf
        refine lv_bipush (pc := 21) (v := (-2)) hx hb dX9_weight_21 (by decide) ?_
        obtain rfl := Option.some.inj hf
        exact x_iret X hI dX9_weight_23
      · have hf := q_in c3 hf
        refine lv_iload_n (pc := 15) hx hb dX9_weight_15 rfl (lv_at hl 2 rfl) ?_
        refine lv_bipush (pc := 16) (v := 9) hx hb dX9_weight_16 (by decide) ?_
        refine lv_icmp_le (pc := 18) (tgt := 24) hx hb dX9_weight_18 (by decide) (fun c4 => ?_) (fun c4 => ?_)
        · have hf := q_ip c4 hf
          refine lv_aload_n (pc := 24) hx hb dX9_weight_24 rfl (lv_at hl 0 rfl) ?_
          refine x_get (pc := 25) X E hI inX9 0 rfl rfl 0 (by decide) tw_2_7 rfl dX9_weight_25 ?_
          refine x_get (pc := 28) X E hI inX3 1 rfl rfl 2 (by decide) tw_1_39 rfl dX9_weight_28 ?_
          refine lv_iload_n (pc := 31) hx hb dX9_weight_31 rfl (lv_at hl 1 rfl) ?_
          obtain ⟨t5, e5, hf⟩ := q_ob hf
          refine x_iald (pc := 32) X E hI 2 rfl e5 dX9_weight_32 ?_
          refine lv_istore_n (pc := 33) (lv' := [(3, .int t5), (0, .ref (h 0)), (1, .int l1), (2, .int l2)]) hx hb dX9_weight_33 rfl hl (by decide) rfl (fun ls hl => ?_)
          refine lv_aload_n (pc := 34) hx hb dX9_weight_34 rfl (lv_at hl 1 rfl) ?_
          refine x_get (pc := 35) X E hI inX9 0 rfl rfl 0 (by decide) tw_2_7 rfl dX9_weight_35 ?_
          refine x_get (pc := 38) X E hI inX3 1 rfl rfl 2 (by decide) tw_1_39 rfl dX9_weight_38 ?_
          refine lv_iload_n (pc := 41) hx hb dX9_weight_41 rfl (lv_at hl 2 rfl) ?_
          refine lv_iload_n (pc := 42) hx hb dX9_weight_42 rfl (lv_at hl 3 rfl) ?_
          obtain ⟨t6, e6, hf⟩ := q_ob hf
          refine x_iast (pc := 43) (w' := ((xb G h x_hasImage f_places f_kinds t6 f_howManyGenerators f_generators f_racks f_howManySeen f_seenFirst f_seenSecond f_seenIs f_seenPlaces f_howManyEvents f_eventWhat f_eventNumber g_places g_kinds g_weights g_howManyGenerators g_generators g_racks g_howManySeen g_seenFirst g_seenSecond g_seenIs g_seenPlaces g_howManyEvents g_eventWhat g_eventNumber n_m0 n_m1 n_m2 n_s0 n_s1 n_s2 v_keys v_asFound v_found v_turns v_places p_keys p_asFound p_found p_turns p_places i_sort i_howOften i_sorts i_moves n_uq n_u u_leasts u_howMany u_known n_wq n_w w_leasts w_howMany w_known t_signs t_length t_whole t_begins t_ends r_sorts r_numbers r_length) ++ wo)) X E hI 2 rfl e6 rfl dX9_weight_43 (fun H locs hI => ?_)
          refine lv_iload_n (pc := 44) hx hb dX9_weight_44 rfl (lv_at hl 0 rfl) ?_
          obtain rfl := Option.some.inj hf
          exact x_iret X hI dX9_weight_45
        · have hf := q_in c4 hf
          refine lv_bipush (pc := 21) (v := (-2)) hx hb dX9_weight_21 (by decide) ?_
          obtain rfl := Option.some.inj hf
          exact x_iret X hI dX9_weight_23
    · have hf := q_in c2 hf
      refine lv_iconst (pc := 9) (v := (-1)) hx hb dX9_weight_9 (by decide) ?_
      obtain rfl := Option.some.inj hf
      exact x_iret X hI dX9_weight_10

abbrev rm_X9_generator : Room := { frames := 4, cells := 0, slots := 0, locals := 108 }
set_option maxHeartbeats 4000000 in
set_option maxRecDepth 100000 in
theorem c_X9_generator (l : Launch) (G : GX) (h : Nat → Nat) {l1 : Int32} {l2 : Int32} {f_places : Int32} {f_howManyGenerators : Int32} {f_generators : Nat → Int32} {n_m0 : Nat} {n_m1 : Nat} {n_m2 : Nat} {n_s0 : Nat} {n_s1 : Nat} {n_s2 : Nat} {v_keys : Nat → Int32} {v_asFound : Nat → Int32} {v_found : Int32} {v_turns : Int32} {v_places : Int32} {p_keys : Nat → Int32} {p_asFound : Nat → Int32} {p_found : Int32} {p_turns : Int32} {p_places : Int32} {u_known : Int32} {w_known : Int32} {r_sorts : Nat → Int32} {r_numbers : Nat → Int32} {r_length : Int32} {x_hasImage : Int32} {f_kinds : Int32} {f_weights : Nat → Int32} {f_racks : Nat → Int32} {f_howManySeen : Int32} {f_seenFirst : Nat → Int32} {f_seenSecond : Nat → Int32} {f_seenIs : Nat → Int32} {f_seenPlaces : Nat → Int32} {f_howManyEvents : Int32} {f_eventWhat : Nat → Int32} {f_eventNumber : Nat → Int32} {g_places : Int32} {g_kinds : Int32} {g_weights : Nat → Int32} {g_howManyGenerators : Int32} {g_generators : Nat → Int32} {g_racks : Nat → Int32} {g_howManySeen : Int32} {g_seenFirst : Nat → Int32} {g_seenSecond : Nat → Int32} {g_seenIs : Nat → Int32} {g_seenPlaces : Nat → Int32} {g_howManyEvents : Int32} {g_eventWhat : Nat → Int32} {g_eventNumber : Nat → Int32} {i_sort : Nat → Int32} {i_howOften : Nat → Int32} {i_sorts : Int32} {i_moves : Int32} {n_uq : Nat} {n_u : Nat} {u_leasts : Nat → Int32} {u_howMany : Int32} {n_wq : Nat} {n_w : Nat} {w_leasts : Nat → Int32} {w_howMany : Int32} {t_signs : Nat → Int32} {t_length : Int32} {t_whole : Int32} {t_begins : Nat → Int32} {t_ends : Nat → Int32} {wo : va_W} {res : Int32 × Int32 × (Nat → Int32) × Nat × Nat × Nat × Nat × Nat × Nat × (Nat → Int32) × (Nat → Int32) × Int32 × Int32 × Int32 × (Nat → Int32) × (Nat → Int32) × Int32 × Int32 × Int32 × Int32 × Int32 × (Nat → Int32) × (Nat → Int32) × Int32} (hf : f_X9_generator l1 l2 f_places f_howManyGenerators f_generators n_m0 n_m1 n_m2 n_s0 n_s1 n_s2 v_keys v_asFound v_found v_turns v_places p_keys p_asFound p_found p_turns p_places u_known w_known r_sorts r_numbers r_length = some res) : MX l yX9_generator cX9_generator 6 (some .int) rm_X9_generator G ((xb G h x_hasImage f_places f_kinds f_weights f_howManyGenerators f_generators f_racks f_howManySeen f_seenFirst f_seenSecond f_seenIs f_seenPlaces f_howManyEvents f_eventWhat f_eventNumber g_places g_kinds g_weights g_howManyGenerators g_generators g_racks g_howManySeen g_seenFirst g_seenSecond g_seenIs g_seenPlaces g_howManyEvents g_eventWhat g_eventNumber n_m0 n_m1 n_m2 n_s0 n_s1 n_s2 v_keys v_asFound v_found v_turns v_places p_keys p_asFound p_found p_turns p_places i_sort i_howOften i_sorts i_moves n_uq n_u u_leasts u_howMany u_known n_wq n_w w_leasts w_howMany w_known t_signs t_length t_whole t_begins t_ends r_sorts r_numbers r_length) ++ wo) [.ref (h 0), .int l1, .int l2] ((xb G h x_hasImage f_places f_kinds f_weights res.2.1 res.2.2.1 f_racks f_howManySeen f_seenFirst f_seenSecond f_seenIs f_seenPlaces f_howManyEvents f_eventWhat f_eventNumber g_places g_kinds g_weights g_howManyGenerators g_generators g_racks g_howManySeen g_seenFirst g_seenSecond g_seenIs g_seenPlaces g_howManyEvents g_eventWhat g_eventNumber res.2.2.2.1 res.2.2.2.2.1 res.2.2.2.2.2.1 res.2.2.2.2.2.2.1 res.2.2.2.2.2.2.2.1 res.2.2.2.2.2.2.2.2.1 res.2.2.2.2.2.2.2.2.2.1 res.2.2.2.2.2.2.2.2.2.2.1 res.2.2.2.2.2.2.2.2.2.2.2.1 res.2.2.2.2.2.2.2.2.2.2.2.2.1 res.2.2.2.2.2.2.2.2.2.2.2.2.2.1 res.2.2.2.2.2.2.2.2.2.2.2.2.2.2.1 res.2.2.2.2.2.2.2.2.2.2.2.2.2.2.2.1 res.2.2.2.2.2.2.2.2.2.2.2.2.2.2.2.2.1 res.2.2.2.2.2.2.2.2.2.2.2.2.2.2.2.2.2.1 res.2.2.2.2.2.2.2.2.2.2.2.2.2.2.2.2.2.2.1 i_sort i_howOften i_sorts i_moves n_uq n_u u_leasts u_howMany res.2.2.2.2.2.2.2.2.2.2.2.2.2.2.2.2.2.2.2.1 n_wq n_w w_leasts w_howMany res.2.2.2.2.2.2.2.2.2.2.2.2.2.2.2.2.2.2.2.2.1 t_signs t_length t_whole t_begins t_ends res.2.2.2.2.2.2.2.2.2.2.2.2.2.2.2.2.2.2.2.2.2.1 res.2.2.2.2.2.2.2.2.2.2.2.2.2.2.2.2.2.2.2.2.2.2.1 res.2.2.2.2.2.2.2.2.2.2.2.2.2.2.2.2.2.2.2.2.2.2.2) ++ wo) (some (.int res.1)) 0 0 := by
  refine MX.of (plainFor_of_name (by decide)) (Nat.le_of_ble_eq_true rfl) ?_
  intro p e s m below meth c A X E hI ls hl
  obtain ⟨hx, hb, hml, hown, hts, hr, hlk⟩ := id X
  have hl : lv_has ls 6 [(0, .ref (h 0)), (1, .int l1), (2, .int l2)] := hl
  unfold f_X9_generator at hf
  refine lv_iload_n (pc := 0) hx hb dX9_generator_0 rfl (lv_at hl 1 rfl) ?_
  refine lv_aload_n (pc := 1) hx hb dX9_generator_1 rfl (lv_at hl 0 rfl) ?_
  refine x_get (pc := 2) X E hI inX9 0 rfl rfl 0 (by decide) tw_2_7 rfl dX9_generator_2 ?_
  refine x_get (pc := 5) X E hI inX3 1 rfl rfl 0 (by decide) tw_1_35 rfl dX9_generator_5 ?_
  obtain ⟨t1, e1, hf⟩ := q_ob hf
  refine x_cSn (pc := 8) (st1 := [.int t1]) X E hI (c_X2_packedRow l G e1) ks_X9_93 hd_X2_packedRow ⟨rfl, rfl⟩ (by decide) rfl hl.1 rfl (Nat.le_of_ble_eq_true rfl) dX9_generator_8 ⟨Nat.le_of_ble_eq_true rfl, Nat.le_of_ble_eq_true rfl⟩ rfl (fun H locs hI => ?_)
  refine lv_istore_n (pc := 11) (lv' := [(3, .int t1), (0, .ref (h 0)), (1, .int l1), (2, .int l2)]) hx hb dX9_generator_11 rfl hl (by decide) rfl (fun ls hl => ?_)
  refine lv_iload_n (pc := 12) hx hb dX9_generator_12 rfl (lv_at hl 0 rfl) ?_
  refine lv_if_lt (pc := 13) (tgt := 23) hx hb dX9_generator_13 (by decide) (fun c2 => ?_) (fun c2 => ?_)
  · have hf := q_ip c2 hf
    refine lv_bipush (pc := 23) (v := (-2)) hx hb dX9_generator_23 (by decide) ?_
    obtain rfl := Option.some.inj hf
    exact x_iret X hI dX9_generator_25
  · have hf := q_in c2 hf
    refine lv_iload_n (pc := 16) hx hb dX9_generator_16 rfl (lv_at hl 3 rfl) ?_
    obtain ⟨t3, e3, hf⟩ := q_ob hf
    refine x_cSn (pc := 17) (st1 := [.int t3]) X E hI (c_X9_isFlag l G e3) ks_X9_99 hd_X9_isFlag ⟨rfl, rfl⟩ (by decide) rfl hl.1 rfl (Nat.le_of_ble_eq_true rfl) dX9_generator_17 ⟨Nat.le_of_ble_eq_true rfl, Nat.le_of_ble_eq_true rfl⟩ rfl (fun H locs hI => ?_)
    refine lv_if_ne (pc := 20) (tgt := 26) hx hb dX9_generator_20 (by decide) (fun c4 => ?_) (fun c4 => ?_)
    · have hf := q_in c4 hf
      refine lv_aload_n (pc := 26) hx hb dX9_generator_26 rfl (lv_at hl 1 rfl) ?_
      refine x_get (pc := 27) X E hI inX9 0 rfl rfl 0 (by decide) tw_2_7 rfl dX9_generator_27 ?_
      refine x_get (pc := 30) X E hI inX3 1 rfl rfl 3 (by decide) tw_1_40 rfl dX9_generator_30 ?_
      refine lv_istore (pc := 33) (lv' := [(4, .int f_howManyGenerators), (3, .int t1), (0, .ref (h 0)), (1, .int l1), (2, .int l2)]) hx hb dX9_generator_33 hl (by decide) rfl (fun ls hl => ?_)
      refine lv_iload (pc := 35) hx hb dX9_generator_35 (lv_at hl 0 rfl) ?_
      refine lv_iconst (pc := 37) (v := 4) hx hb dX9_generator_37 (by decide) ?_
      refine lv_icmp_lt (pc := 38) (tgt := 44) hx hb dX9_generator_38 (by decide) (fun c5 => ?_) (fun c5 => ?_)
      · have hf := q_ip c5 hf
        refine lv_aload_n (pc := 44) hx hb dX9_generator_44 rfl (lv_at hl 2 rfl) ?_
        refine x_get (pc := 45) X E hI inX9 0 rfl rfl 0 (by decide) tw_2_7 rfl dX9_generator_45 ?_
        refine x_get (pc := 48) X E hI inX3 1 rfl rfl 4 (by decide) tw_1_43 rfl dX9_generator_48 ?_
        refine lv_iload (pc := 51) hx hb dX9_generator_51 (lv_at hl 0 rfl) ?_
        refine lv_iload_n (pc := 53) hx hb dX9_generator_53 rfl (lv_at hl 1 rfl) ?_
        refine lv_iconst (pc := 54) (v := 1) hx hb dX9_generator_54 (by decide) ?_
        refine lv_ishl (pc := 55) hx hb dX9_generator_55 ?_
        refine lv_iload_n (pc := 56) hx hb dX9_generator_56 rfl (lv_at hl 4 rfl) ?_
        refine lv_ior (pc := 57) hx hb dX9_generator_57 ?_
        obtain ⟨t6, e6, hf⟩ := q_ob hf
        refine x_iast (pc := 58) (w' := ((xb G h x_hasImage f_places f_kinds f_weights f_howManyGenerators t6 f_racks f_howManySeen f_seenFirst f_seenSecond f_seenIs f_seenPlaces f_howManyEvents f_eventWhat f_eventNumber g_places g_kinds g_weights g_howManyGenerators g_generators g_racks g_howManySeen g_seenFirst g_seenSecond g_seenIs g_seenPlaces g_howManyEvents g_eventWhat g_eventNumber n_m0 n_m1 n_m2 n_s0 n_s1 n_s2 v_keys v_asFound v_found v_turns v_places p_keys p_asFound p_found p_turns p_places i_sort i_howOften i_sorts i_moves n_uq n_u u_leasts u_howMany u_known n_wq n_w w_leasts w_howMany w_known t_signs t_length t_whole t_begins t_ends r_sorts r_numbers r_length) ++ wo)) X E hI 3 rfl e6 rfl dX9_generator_58 (fun H locs hI => ?_)
        refine lv_aload_n (pc := 59) hx hb dX9_generator_59 rfl (lv_at hl 2 rfl) ?_
        refine x_get (pc := 60) X E hI inX9 0 rfl rfl 4 (by decide) tw_2_11 rfl dX9_generator_60 ?_
        refine lv_aload_n (pc := 63) hx hb dX9_generator_63 rfl (lv_at hl 2 rfl) ?_
        refine x_get (pc := 64) X E hI inX9 0 rfl rfl 0 (by decide) tw_2_7 rfl dX9_generator_64 ?_
        refine x_get (pc := 67) X E hI inX3 1 rfl rfl 4 (by decide) tw_1_43 rfl dX9_generator_67 ?_
        refine lv_iload (pc := 70) hx hb dX9_generator_70 (lv_at hl 0 rfl) ?_
        refine lv_iconst (pc := 72) (v := 1) hx hb dX9_generator_72 (by decide) ?_
        refine lv_iadd (pc := 73) hx hb dX9_generator_73 ?_
        obtain ⟨t7, e7, hf⟩ := q_ob hf
        refine x_cSn (pc := 74) (st1 := [.int t7, .ref (h 3), .ref n_s0]) X E hI (c_X9_lowestBits l G e7) ks_X9_106 hd_X9_lowestBits ⟨rfl, rfl⟩ (by decide) rfl hl.1 rfl (Nat.le_of_ble_eq_true rfl) dX9_generator_74 ⟨Nat.le_of_ble_eq_true rfl, Nat.le_of_ble_eq_true rfl⟩ rfl (fun H locs hI => ?_)
        refine lv_aload_n (pc := 77) hx hb dX9_generator_77 rfl (lv_at hl 2 rfl) ?_
        refine x_get (pc := 78) X E hI inX9 0 rfl rfl 0 (by decide) tw_2_7 rfl dX9_generator_78 ?_
        refine x_get (pc := 81) X E hI inX3 1 rfl rfl 0 (by decide) tw_1_35 rfl dX9_generator_81 ?_
        obtain ⟨t8, e8, hf⟩ := q_ob hf
        refine x_cVt (pc := 84) (st1 := [.int t8.1]) (w2 := (xb G h x_hasImage f_places f_kinds f_weights f_howManyGenerators t6 f_racks f_howManySeen f_seenFirst f_seenSecond f_seenIs f_seenPlaces f_howManyEvents f_eventWhat f_eventNumber g_places g_kinds g_weights g_howManyGenerators g_generators g_racks g_howManySeen g_seenFirst g_seenSecond g_seenIs g_seenPlaces g_howManyEvents g_eventWhat g_eventNumber n_m0 n_m1 n_m2 n_s0 n_s1 n_s2 v_keys v_asFound v_found v_turns v_places t8.2.1 t8.2.2.1 t8.2.2.2.1 t8.2.2.2.2.1 t8.2.2.2.2.2 i_sort i_howOften i_sorts i_moves n_uq n_u u_leasts u_howMany u_known n_wq n_w w_leasts w_howMany w_known t_signs t_length t_whole t_begins t_ends r_sorts r_numbers r_length)) X E hI (c_X5_grow l G n_s0 n_s1 n_s2 (h 3) e8) kv_X9_110 hd_X5_grow ⟨rfl, rfl⟩ (by decide) pt_xb_vgw_1 pt_xb_vgw_1q 0 rfl rfl rfl rfl hl.1 rfl (Nat.le_of_ble_eq_true rfl) dX9_generator_84 ⟨Nat.le_of_ble_eq_true rfl, Nat.le_of_ble_eq_true rfl⟩ rfl (fun H locs hI => ?_)
        refine lv_if_ne (pc := 87) (tgt := 114) hx hb dX9_generator_87 (by decide) (fun c9 => ?_) (fun c9 => ?_)
        · have hf := q_in c9 hf
          refine lv_aload_n (pc := 114) hx hb dX9_generator_114 rfl (lv_at hl 2 rfl) ?_
          refine x_get (pc := 115) X E hI inX9 0 rfl rfl 0 (by decide) tw_2_7 rfl dX9_generator_115 ?_
          refine lv_iload (pc := 118) hx hb dX9_generator_118 (lv_at hl 0 rfl) ?_
          refine lv_iconst (pc := 120) (v := 1) hx hb dX9_generator_120 (by decide) ?_
          refine lv_iadd (pc := 121) hx hb dX9_generator_121 ?_
          refine x_put (pc := 122) (w' := ((xb G h x_hasImage f_places f_kinds f_weights (f_howManyGenerators + 1) t6 f_racks f_howManySeen f_seenFirst f_seenSecond f_seenIs f_seenPlaces f_howManyEvents f_eventWhat f_eventNumber g_places g_kinds g_weights g_howManyGenerators g_generators g_racks g_howManySeen g_seenFirst g_seenSecond g_seenIs g_seenPlaces g_howManyEvents g_eventWhat g_eventNumber n_m0 n_m1 n_m2 n_s0 n_s1 n_s2 v_keys v_asFound v_found v_turns v_places t8.2.1 t8.2.2.1 t8.2.2.2.1 t8.2.2.2.2.1 t8.2.2.2.2.2 i_sort i_howOften i_sorts i_moves n_uq n_u u_leasts u_howMany u_known n_wq n_w w_leasts w_howMany w_known t_signs t_length t_whole t_begins t_ends r_sorts r_numbers r_length) ++ wo)) X E hI inX3 tyX3 tyX3_ok nmX3 1 rfl rfl 3 (by decide) tw_1_40 rfl rfl rfl (Nat.le_of_ble_eq_true rfl) rfl dX9_generator_122 (fun H locs hI => ?_)
          refine lv_aload_n (pc := 125) hx hb dX9_generator_125 rfl (lv_at hl 2 rfl) ?_
          refine x_get (pc := 126) X E hI inX9 0 rfl rfl 3 (by decide) tw_2_10 rfl dX9_generator_126 ?_
          refine lv_astore (pc := 129) (lv' := [(5, .ref n_m0), (4, .int f_howManyGenerators), (3, .int t1), (0, .ref (h 0)), (1, .int l1), (2, .int l2)]) hx hb dX9_generator_129 hl (by decide) rfl (fun ls hl => ?_)
          refine lv_aload_n (pc := 131) hx hb dX9_generator_131 rfl (lv_at hl 3 rfl) ?_
          refine lv_aload_n (pc := 132) hx hb dX9_generator_132 rfl (lv_at hl 3 rfl) ?_
          refine x_get (pc := 133) X E hI inX9 0 rfl rfl 4 (by decide) tw_2_11 rfl dX9_generator_133 ?_
          refine x_put (pc := 136) (w' := (((xb G h x_hasImage f_places f_kinds f_weights (f_howManyGenerators + 1) t6 f_racks f_howManySeen f_seenFirst f_seenSecond f_seenIs f_seenPlaces f_howManyEvents f_eventWhat f_eventNumber g_places g_kinds g_weights g_howManyGenerators g_generators g_racks g_howManySeen g_seenFirst g_seenSecond g_seenIs g_seenPlaces g_howManyEvents g_eventWhat g_eventNumber n_m0 n_m1 n_m2 n_s0 n_s1 n_s2 v_keys v_asFound v_found v_turns v_places t8.2.1 t8.2.2.1 t8.2.2.2.1 t8.2.2.2.2.1 t8.2.2.2.2.2 i_sort i_howOften i_sorts i_moves n_uq n_u u_leasts u_howMany u_known n_wq n_w w_leasts w_howMany w_known t_signs t_length t_whole t_begins t_ends r_sorts r_numbers r_length).set 0 (h 0, .inr (7, [.ref (h 1), .ref (h 11), .int x_hasImage, .ref (n_s0), .ref (n_s0), .ref (h 21), .ref (h 24), .ref (h 25), .ref (h 26), .ref (h 30), .ref (h 33)]))) ++ wo)) X E hI inX9 tyX9 tyX9_ok nmX9 0 rfl rfl 3 (by decide) tw_2_10 rfl rfl rfl (Nat.le_of_ble_eq_true rfl) rfl dX9_generator_136 (fun H locs hI => ?_)
          refine lv_aload_n (pc := 139) hx hb dX9_generator_139 rfl (lv_at hl 3 rfl) ?_
          refine lv_aload (pc := 140) hx hb dX9_generator_140 (lv_at hl 0 rfl) ?_
          refine x_put (pc := 142) (w' := (((xb G h x_hasImage f_places f_kinds f_weights (f_howManyGenerators + 1) t6 f_racks f_howManySeen f_seenFirst f_seenSecond f_seenIs f_seenPlaces f_howManyEvents f_eventWhat f_eventNumber g_places g_kinds g_weights g_howManyGenerators g_generators g_racks g_howManySeen g_seenFirst g_seenSecond g_seenIs g_seenPlaces g_howManyEvents g_eventWhat g_eventNumber n_m0 n_m1 n_m2 n_s0 n_s1 n_s2 v_keys v_asFound v_found v_turns v_places t8.2.1 t8.2.2.1 t8.2.2.2.1 t8.2.2.2.2.1 t8.2.2.2.2.2 i_sort i_howOften i_sorts i_moves n_uq n_u u_leasts u_howMany u_known n_wq n_w w_leasts w_howMany w_known t_signs t_length t_whole t_begins t_ends r_sorts r_numbers r_length).set 0 (h 0, .inr (7, [.ref (h 1), .ref (h 11), .int x_hasImage, .ref (n_s0), .ref (n_m0), .ref (h 21), .ref (h 24), .ref (h 25), .ref (h 26), .ref (h 30), .ref (h 33)]))) ++ wo)) X E hI inX9 tyX9 tyX9_ok nmX9 0 rfl rfl 4 (by decide) tw_2_11 rfl rfl rfl (Nat.le_of_ble_eq_true rfl) rfl dX9_generator_142 (fun H locs hI => ?_)
          have hI : IN A G ((xb G h x_hasImage f_places f_kinds f_weights (f_howManyGenerators + 1) t6 f_racks f_howManySeen f_seenFirst f_seenSecond f_seenIs f_seenPlaces f_howManyEvents f_eventWhat f_eventNumber g_places g_kinds g_weights g_howManyGenerators g_generators g_racks g_howManySeen g_seenFirst g_seenSecond g_seenIs g_seenPlaces g_howManyEvents g_eventWhat g_eventNumber n_s0 n_s1 n_s2 n_m0 n_m1 n_m2 t8.2.1 t8.2.2.1 t8.2.2.2.1 t8.2.2.2.2.1 t8.2.2.2.2.2 v_keys v_asFound v_found v_turns v_places i_sort i_howOften i_sorts i_moves n_uq n_u u_leasts u_howMany u_known n_wq n_w w_leasts w_howMany w_known t_signs t_length t_whole t_begins t_ends r_sorts r_numbers r_length) ++ wo) s H locs := IN.subT (w0 := ((xb G h x_hasImage f_places f_kinds f_weights (f_howManyGenerators + 1) t6 f_racks f_howManySeen f_seenFirst f_seenSecond f_seenIs f_seenPlaces f_howManyEvents f_eventWhat f_eventNumber g_places g_kinds g_weights g_howManyGenerators g_generators g_racks g_howManySeen g_seenFirst g_seenSecond g_seenIs g_seenPlaces g_howManyEvents g_eventWhat g_eventNumber n_m0 n_m1 n_m2 n_s0 n_s1 n_s2 v_keys v_asFound v_found v_turns v_places t8.2.1 t8.2.2.1 t8.2.2.2.1 t8.2.2.2.2.1 t8.2.2.2.2.2 i_sort i_howOften i_sorts i_moves n_uq n_u u_leasts u_howMany u_known n_wq n_w w_leasts w_howMany w_known t_signs t_length t_whole t_begins t_ends r_sorts r_numbers r_length).set 0 (h 0, .inr (7, [.ref (h 1), .ref (h 11), .int x_hasImage, .ref (n_s0), .ref (n_m0), .ref (h 21), .ref (h 24), .ref (h 25), .ref (h 26), .ref (h 30), .ref (h 33)])))) (w2 := (xb G h x_hasImage f_places f_kinds f_weights (f_howManyGenerators + 1) t6 f_racks f_howManySeen f_seenFirst f_seenSecond f_seenIs f_seenPlaces f_howManyEvents f_eventWhat f_eventNumber g_places g_kinds g_weights g_howManyGenerators g_generators g_racks g_howManySeen g_seenFirst g_seenSecond g_seenIs g_seenPlaces g_howManyEvents g_eventWhat g_eventNumber n_s0 n_s1 n_s2 n_m0 n_m1 n_m2 t8.2.1 t8.2.2.1 t8.2.2.2.1 t8.2.2.2.2.1 t8.2.2.2.2.2 v_keys v_asFound v_found v_turns v_places i_sort i_howOften i_sorts i_moves n_uq n_u u_leasts u_howMany u_known n_wq n_w w_leasts w_howMany w_known t_signs t_length t_whole t_begins t_ends r_sorts r_numbers r_length)) hI [0, 1, 2, 3, 4, 5, 6, 7, 8, 9, 10, 11, 12, 13, 14, 15, 16, 17, 18, 19, 20, 24, 25, 26, 21, 22, 23, 27, 28, 29, 30, 31, 32, 33, 34, 35, 36, 37, 38, 39, 40] rfl rfl
          refine lv_aload_n (pc := 145) hx hb dX9_generator_145 rfl (lv_at hl 3 rfl) ?_
          obtain ⟨t10, e10, hf⟩ := q_ob hf
          refine x_cVs (pc := 146) (st1 := []) (w1 := ((xb G h x_hasImage f_places f_kinds f_weights (f_howManyGenerators + 1) t6 f_racks f_howManySeen f_seenFirst f_seenSecond f_seenIs f_seenPlaces f_howManyEvents f_eventWhat f_eventNumber g_places g_kinds g_weights g_howManyGenerators g_generators g_racks g_howManySeen g_seenFirst g_seenSecond g_seenIs g_seenPlaces g_howManyEvents g_eventWhat g_eventNumber n_s0 n_s1 n_s2 n_m0 n_m1 n_m2 t8.2.1 t8.2.2.1 t8.2.2.2.1 t8.2.2.2.2.1 t8.2.2.2.2.2 v_keys v_asFound v_found v_turns v_places i_sort i_howOften i_sorts i_moves n_uq n_u u_leasts u_howMany t10.1 n_wq n_w w_leasts w_howMany t10.2 t_signs t_length t_whole t_begins t_ends r_sorts r_numbers r_length) ++ wo)) X E hI (c_X9_forgetClasses l G h e10) kv_X9_83 hd_X9_forgetClasses ⟨rfl, rfl⟩ (by decide) 0 rfl rfl rfl rfl hl.1 rfl (Nat.le_of_ble_eq_true rfl) dX9_generator_146 ⟨Nat.le_of_ble_eq_true rfl, Nat.le_of_ble_eq_true rfl⟩ rfl (fun H locs hI => ?_)
          refine lv_iload (pc := 149) hx hb dX9_generator_149 (lv_at hl 1 rfl) ?_
          obtain rfl := Option.some.inj hf
          exact x_iret X hI dX9_generator_151
        · have hf := q_ip c9 hf
          refine lv_aload_n (pc := 90) hx hb dX9_generator_90 rfl (lv_at hl 2 rfl) ?_
          refine x_get (pc := 91) X E hI inX9 0 rfl rfl 9 (by decide) tw_2_16 rfl dX9_generator_91 ?_
          refine lv_iconst (pc := 94) (v := 5) hx hb dX9_generator_94 (by decide) ?_
          refine lv_iload (pc := 95) hx hb dX9_generator_95 (lv_at hl 0 rfl) ?_
          obtain ⟨t11, e11, hf⟩ := q_ob hf
          refine x_cVt (pc := 97) (st1 := []) (w2 := (xb G h x_hasImage f_places f_kinds f_weights f_howManyGenerators t6 f_racks f_howManySeen f_seenFirst f_seenSecond f_seenIs f_seenPlaces f_howManyEvents f_eventWhat f_eventNumber g_places g_kinds g_weights g_howManyGenerators g_generators g_racks g_howManySeen g_seenFirst g_seenSecond g_seenIs g_seenPlaces g_howManyEvents g_eventWhat g_eventNumber n_m0 n_m1 n_m2 n_s0 n_s1 n_s2 v_keys v_asFound v_found v_turns v_places t8.2.1 t8.2.2.1 t8.2.2.2.1 t8.2.2.2.2.1 t8.2.2.2.2.2 i_sort i_howOften i_sorts i_moves n_uq n_u u_leasts u_howMany u_known n_wq n_w w_leasts w_howMany w_known t_signs t_length t_whole t_begins t_ends t11.1 t11.2.1 t11.2.2)) X E hI (c_X8_begin l G (h 30) (h 31) (h 32) e11) kv_X9_114 hd_X8_begin ⟨rfl, rfl⟩ (by decide) pt_xb_trw_0 pt_xb_trw_0q 0 rfl rfl rfl rfl hl.1 rfl (Nat.le_of_ble_eq_true rfl) dX9_generator_97 ⟨Nat.le_of_ble_eq_true rfl, Nat.le_of_ble_eq_true rfl⟩ rfl (fun H locs hI => ?_)
          refine lv_aload_n (pc := 100) hx hb dX9_generator_100 rfl (lv_at hl 2 rfl) ?_
          refine x_get (pc := 101) X E hI inX9 0 rfl rfl 9 (by decide) tw_2_16 rfl dX9_generator_101 ?_
          refine lv_bipush (pc := 104) (v := 6) hx hb dX9_generator_104 (by decide) ?_
          refine lv_bipush (pc := 106) (v := 120) hx hb dX9_generator_106 (by decide) ?_
          obtain ⟨t12, e12, hf⟩ := q_ob hf
          refine x_cVt (pc := 108) (st1 := []) (w2 := (xb G h x_hasImage f_places f_kinds f_weights f_howManyGenerators t6 f_racks f_howManySeen f_seenFirst f_seenSecond f_seenIs f_seenPlaces f_howManyEvents f_eventWhat f_eventNumber g_places g_kinds g_weights g_howManyGenerators g_generators g_racks g_howManySeen g_seenFirst g_seenSecond g_seenIs g_seenPlaces g_howManyEvents g_eventWhat g_eventNumber n_m0 n_m1 n_m2 n_s0 n_s1 n_s2 v_keys v_asFound v_found v_turns v_places t8.2.1 t8.2.2.1 t8.2.2.2.1 t8.2.2.2.2.1 t8.2.2.2.2.2 i_sort i_howOften i_sorts i_moves n_uq n_u u_leasts u_howMany u_known n_wq n_w w_leasts w_howMany w_known t_signs t_length t_whole t_begins t_ends t12.1 t12.2.1 t12.2.2)) X E hI (c_X8_because l G (h 30) (h 31) (h 32) e12) kv_X9_117 hd_X8_because ⟨rfl, rfl⟩ (by decide) pt_xb_trw_0 pt_xb_trw_0q 0 rfl rfl rfl rfl hl.1 rfl (Nat.le_of_ble_eq_true rfl) dX9_generator_108 ⟨Nat.le_of_ble_eq_true rfl, Nat.le_of_ble_eq_true rfl⟩ rfl (fun H locs hI => ?_)
          refine lv_bipush (pc := 111) (v := (-15)) hx hb dX9_generator_111 (by decide) ?_
          obtain rfl := Option.some.inj hf
          exact x_iret X hI dX9_generator_113
      · have hf := q_in c5 hf
        refine lv_bipush (pc := 41) (v := (-4)) hx hb dX9_generator_41 (by decide) ?_
        obtain rfl := Option.some.inj hf
        exact x_iret X hI dX9_generator_43
    · have hf := q_ip c4 hf
      refine lv_bipush (pc := 23) (v := (-2)) hx hb dX9_generator_23 (by decide) ?_
      obtain rfl := Option.some.inj hf
      exact x_iret X hI dX9_generator_25

abbrev rm_X9_drop : Room := { frames := 5, cells := 0, slots := 0, locals := 128 }
set_option maxHeartbeats 4000000 in
set_option maxRecDepth 100000 in
theorem c_X9_drop (l : Launch) (G : GX) (h : Nat → Nat) {f_places : Int32} {f_howManyGenerators : Int32} {f_generators : Nat → Int32} {f_racks : Nat → Int32} {v_keys : Nat → Int32} {v_asFound : Nat → Int32} {v_found : Int32} {v_turns : Int32} {v_places : Int32} {u_known : Int32} {w_known : Int32} {x_hasImage : Int32} {f_kinds : Int32} {f_weights : Nat → Int32} {f_howManySeen : Int32} {f_seenFirst : Nat → Int32} {f_seenSecond : Nat → Int32} {f_seenIs : Nat → Int32} {f_seenPlaces : Nat → Int32} {f_howManyEvents : Int32} {f_eventWhat : Nat → Int32} {f_eventNumber : Nat → Int32} {g_places : Int32} {g_kinds : Int32} {g_weights : Nat → Int32} {g_howManyGenerators : Int32} {g_generators : Nat → Int32} {g_racks : Nat → Int32} {g_howManySeen : Int32} {g_seenFirst : Nat → Int32} {g_seenSecond : Nat → Int32} {g_seenIs : Nat → Int32} {g_seenPlaces : Nat → Int32} {g_howManyEvents : Int32} {g_eventWhat : Nat → Int32} {g_eventNumber : Nat → Int32} {n_m0 : Nat} {n_m1 : Nat} {n_m2 : Nat} {n_s0 : Nat} {n_s1 : Nat} {n_s2 : Nat} {p_keys : Nat → Int32} {p_asFound : Nat → Int32} {p_found : Int32} {p_turns : Int32} {p_places : Int32} {i_sort : Nat → Int32} {i_howOften : Nat → Int32} {i_sorts : Int32} {i_moves : Int32} {n_uq : Nat} {n_u : Nat} {u_leasts : Nat → Int32} {u_howMany : Int32} {n_wq : Nat} {n_w : Nat} {w_leasts : Nat → Int32} {w_howMany : Int32} {t_signs : Nat → Int32} {t_length : Int32} {t_whole : Int32} {t_begins : Nat → Int32} {t_ends : Nat → Int32} {r_sorts : Nat → Int32} {r_numbers : Nat → Int32} {r_length : Int32} {wo : va_W} {res : Int32 × Int32 × (Nat → Int32) × (Nat → Int32) × (Nat → Int32) × Int32 × Int32 × Int32 × Int32 × Int32} (hf : f_X9_drop f_places f_howManyGenerators f_generators f_racks v_keys v_asFound v_found v_turns v_places u_known w_known = some res) : MX l yX9_drop cX9_drop 2 (some .int) rm_X9_drop G ((xb G h x_hasImage f_places f_kinds f_weights f_howManyGenerators f_generators f_racks f_howManySeen f_seenFirst f_seenSecond f_seenIs f_seenPlaces f_howManyEvents f_eventWhat f_eventNumber g_places g_kinds g_weights g_howManyGenerators g_generators g_racks g_howManySeen g_seenFirst g_seenSecond g_seenIs g_seenPlaces g_howManyEvents g_eventWhat g_eventNumber n_m0 n_m1 n_m2 n_s0 n_s1 n_s2 v_keys v_asFound v_found v_turns v_places p_keys p_asFound p_found p_turns p_places i_sort i_howOften i_sorts i_moves n_uq n_u u_leasts u_howMany u_known n_wq n_w w_leasts w_howMany w_known t_signs t_length t_whole t_begins t_ends r_sorts r_numbers r_length) ++ wo) [.ref (h 0)] ((xb G h x_hasImage f_places f_kinds f_weights res.2.1 f_generators res.2.2.1 f_howManySeen f_seenFirst f_seenSecond f_seenIs f_seenPlaces f_howManyEvents f_eventWhat f_eventNumber g_places g_kinds g_weights g_howManyGenerators g_generators g_racks g_howManySeen g_seenFirst g_seenSecond g_seenIs g_seenPlaces g_howManyEvents g_eventWhat g_eventNumber n_m0 n_m1 n_m2 n_s0 n_s1 n_s2 res.2.2.2.1 res.2.2.2.2.1 res.2.2.2.2.2.1 res.2.2.2.2.2.2.1 res.2.2.2.2.2.2.2.1 p_keys p_asFound p_found p_turns p_places i_sort i_howOften i_sorts i_moves n_uq n_u u_leasts u_howMany res.2.2.2.2.2.2.2.2.1 n_wq n_w w_leasts w_howMany res.2.2.2.2.2.2.2.2.2 t_signs t_length t_whole t_begins t_ends r_sorts r_numbers r_length) ++ wo) (some (.int res.1)) 0 0 := by
  refine MX.of (plainFor_of_name (by decide)) (Nat.le_of_ble_eq_true rfl) ?_
  intro p e s m below meth c A X E hI ls hl
  obtain ⟨hx, hb, hml, hown, hts, hr, hlk⟩ := id X
  have hl : lv_has ls 2 [(0, .ref (h 0))] := hl
  unfold f_X9_drop at hf
  refine lv_aload_n (pc := 0) hx hb dX9_drop_0 rfl (lv_at hl 0 rfl) ?_
  refine x_get (pc := 1) X E hI inX9 0 rfl rfl 0 (by decide) tw_2_7 rfl dX9_drop_1 ?_
  refine x_get (pc := 4) X E hI inX3 1 rfl rfl 3 (by decide) tw_1_40 rfl dX9_drop_4 ?_
  refine lv_if_gt (pc := 7) (tgt := 13) hx hb dX9_drop_7 (by decide) (fun c1 => ?_) (fun c1 => ?_)
  · have hf := q_ip c1 hf
    refine lv_aload_n (pc := 13) hx hb dX9_drop_13 rfl (lv_at hl 0 rfl) ?_
    refine x_get (pc := 14) X E hI inX9 0 rfl rfl 0 (by decide) tw_2_7 rfl dX9_drop_14 ?_
    refine x_get (pc := 17) X E hI inX3 1 rfl rfl 3 (by decide) tw_1_40 rfl dX9_drop_17 ?_
    refine lv_iconst (pc := 20) (v := 1) hx hb dX9_drop_20 (by decide) ?_
    refine lv_isub (pc := 21) hx hb dX9_drop_21 ?_
    refine lv_istore_n (pc := 22) (lv' := [(1, .int (f_howManyGenerators - 1)), (0, .ref (h 0))]) hx hb dX9_drop_22 rfl hl (by decide) rfl (fun ls hl => ?_)
    refine lv_aload_n (pc := 23) hx hb dX9_drop_23 rfl (lv_at hl 1 rfl) ?_
    refine x_get (pc := 24) X E hI inX9 0 rfl rfl 0 (by decide) tw_2_7 rfl dX9_drop_24 ?_
    refine lv_iload_n (pc := 27) hx hb dX9_drop_27 rfl (lv_at hl 0 rfl) ?_
    refine x_put (pc := 28) (w' := ((xb G h x_hasImage f_places f_kinds f_weights (f_howManyGenerators - 1) f_generators f_racks f_howManySeen f_seenFirst f_seenSecond f_seenIs f_seenPlaces f_howManyEvents f_eventWhat f_eventNumber g_places g_kinds g_weights g_howManyGenerators g_generators g_racks g_howManySeen g_seenFirst g_seenSecond g_seenIs g_seenPlaces g_howManyEvents g_eventWhat g_eventNumber n_m0 n_m1 n_m2 n_s0 n_s1 n_s2 v_keys v_asFound v_found v_turns v_places p_keys p_asFound p_found p_turns p_places i_sort i_howOften i_sorts i_moves n_uq n_u u_leasts u_howMany u_known n_wq n_w w_leasts w_howMany w_known t_signs t_length t_whole t_begins t_ends r_sorts r_numbers r_length) ++ wo)) X E hI inX3 tyX3 tyX3_ok nmX3 1 rfl rfl 3 (by decide) tw_1_40 rfl rfl rfl (Nat.le_of_ble_eq_true rfl) rfl dX9_drop_28 (fun H locs hI => ?_)
    refine lv_aload_n (pc := 31) hx hb dX9_drop_31 rfl (lv_at hl 1 rfl) ?_
    refine x_get (pc := 32) X E hI inX9 0 rfl rfl 0 (by decide) tw_2_7 rfl dX9_drop_32 ?_
    refine lv_iload_n (pc := 35) hx hb dX9_drop_35 rfl (lv_at hl 0 rfl) ?_
    obtain ⟨t2, e2, hf⟩ := q_ob hf
    refine x_cVt (pc := 36) (st1 := []) (w2 := (xb G h x_hasImage f_places f_kinds f_weights (f_howManyGenerators - 1) f_generators t2 f_howManySeen f_seenFirst f_seenSecond f_seenIs f_seenPlaces f_howManyEvents f_eventWhat f_eventNumber g_places g_kinds g_weights g_howManyGenerators g_generators g_racks g_howManySeen g_seenFirst g_seenSecond g_seenIs g_seenPlaces g_howManyEvents g_eventWhat g_eventNumber n_m0 n_m1 n_m2 n_s0 n_s1 n_s2 v_keys v_asFound v_found v_turns v_places p_keys p_asFound p_found p_turns p_places i_sort i_howOften i_sorts i_moves n_uq n_u u_leasts u_howMany u_known n_wq n_w w_leasts w_howMany w_known t_signs t_length t_whole t_begins t_ends r_sorts r_numbers r_length)) X E hI (c_X3_takeFromRacks l G (h 1) (h 2) (h 3) (h 4) (h 5) (h 6) (h 7) (h 8) (h 9) (h 10) e2) kv_X9_120 hd_X3_takeFromRacks ⟨rfl, rfl⟩ (by decide) pt_xb_fw_0 pt_xb_fw_0q 0 rfl rfl rfl rfl hl.1 rfl (Nat.le_of_ble_eq_true rfl) dX9_drop_36 ⟨Nat.le_of_ble_eq_true rfl, Nat.le_of_ble_eq_true rfl⟩ rfl (fun H locs hI => ?_)
    refine lv_aload_n (pc := 39) hx hb dX9_drop_39 rfl (lv_at hl 1 rfl) ?_
    obtain ⟨t3, e3, hf⟩ := q_ob hf
    refine x_cVs (pc := 40) (st1 := []) (w1 := ((xb G h x_hasImage f_places f_kinds f_weights (f_howManyGenerators - 1) f_generators t2 f_howManySeen f_seenFirst f_seenSecond f_seenIs f_seenPlaces f_howManyEvents f_eventWhat f_eventNumber g_places g_kinds g_weights g_howManyGenerators g_generators g_racks g_howManySeen g_seenFirst g_seenSecond g_seenIs g_seenPlaces g_howManyEvents g_eventWhat g_eventNumber n_m0 n_m1 n_m2 n_s0 n_s1 n_s2 t3.1 t3.2.1 t3.2.2.1 t3.2.2.2.1 t3.2.2.2.2.1 p_keys p_asFound p_found p_turns p_places i_sort i_howOften i_sorts i_moves n_uq n_u u_leasts u_howMany t3.2.2.2.2.2.1 n_wq n_w w_leasts w_howMany t3.2.2.2.2.2.2 t_signs t_length t_whole t_begins t_ends r_sorts r_numbers r_length) ++ wo)) X E hI (c_X9_growMoves l G h e3) kv_X9_123 hd_X9_growMoves ⟨rfl, rfl⟩ (by decide) 0 rfl rfl rfl rfl hl.1 rfl (Nat.le_of_ble_eq_true rfl) dX9_drop_40 ⟨Nat.le_of_ble_eq_true rfl, Nat.le_of_ble_eq_true rfl⟩ rfl (fun H locs hI => ?_)
    refine lv_iload_n (pc := 43) hx hb dX9_drop_43 rfl (lv_at hl 0 rfl) ?_
    obtain rfl := Option.some.inj hf
    exact x_iret X hI dX9_drop_44
  · have hf := q_in c1 hf
    refine lv_bipush (pc := 10) (v := (-3)) hx hb dX9_drop_10 (by decide) ?_
    obtain rfl := Option.some.inj hf
    exact x_iret X hI dX9_drop_12

abbrev rm_X9_of : Room := { frames := 3, cells := 0, slots := 0, locals := 70 }
set_option maxHeartbeats 4000000 in
set_option maxRecDepth 100000 in
theorem c_X9_of (l : Launch) (G : GX) (h : Nat → Nat) {l1 : Int32} {l2 : Int32} {f_places : Int32} {f_howManyGenerators : Int32} {f_generators : Nat → Int32} {x_hasImage : Int32} {f_kinds : Int32} {f_weights : Nat → Int32} {f_racks : Nat → Int32} {f_howManySeen : Int32} {f_seenFirst : Nat → Int32} {f_seenSecond : Nat → Int32} {f_seenIs : Nat → Int32} {f_seenPlaces : Nat → Int32} {f_howManyEvents : Int32} {f_eventWhat : Nat → Int32} {f_eventNumber : Nat → Int32} {g_places : Int32} {g_kinds : Int32} {g_weights : Nat → Int32} {g_howManyGenerators : Int32} {g_generators : Nat → Int32} {g_racks : Nat → Int32} {g_howManySeen : Int32} {g_seenFirst : Nat → Int32} {g_seenSecond : Nat → Int32} {g_seenIs : Nat → Int32} {g_seenPlaces : Nat → Int32} {g_howManyEvents : Int32} {g_eventWhat : Nat → Int32} {g_eventNumber : Nat → Int32} {n_m0 : Nat} {n_m1 : Nat} {n_m2 : Nat} {n_s0 : Nat} {n_s1 : Nat} {n_s2 : Nat} {v_keys : Nat → Int32} {v_asFound : Nat → Int32} {v_found : Int32} {v_turns : Int32} {v_places : Int32} {p_keys : Nat → Int32} {p_asFound : Nat → Int32} {p_found : Int32} {p_turns : Int32} {p_places : Int32} {i_sort : Nat → Int32} {i_howOften : Nat → Int32} {i_sorts : Int32} {i_moves : Int32} {n_uq : Nat} {n_u : Nat} {u_leasts : Nat → Int32} {u_howMany : Int32} {u_known : Int32} {n_wq : Nat} {n_w : Nat} {w_leasts : Nat → Int32} {w_howMany : Int32} {w_known : Int32} {t_signs : Nat → Int32} {t_length : Int32} {t_whole : Int32} {t_begins : Nat → Int32} {t_ends : Nat → Int32} {r_sorts : Nat → Int32} {r_numbers : Nat → Int32} {r_length : Int32} {wo : va_W} {res : Int32} (hf : f_X9_of l1 l2 f_places f_howManyGenerators f_generators = some res) : MX l yX9_of cX9_of 3 (some .int) rm_X9_of G ((xb G h x_hasImage f_places f_kinds f_weights f_howManyGenerators f_generators f_racks f_howManySeen f_seenFirst f_seenSecond f_seenIs f_seenPlaces f_howManyEvents f_eventWhat f_eventNumber g_places g_kinds g_weights g_howManyGenerators g_generators g_racks g_howManySeen g_seenFirst g_seenSecond g_seenIs g_seenPlaces g_howManyEvents g_eventWhat g_eventNumber n_m0 n_m1 n_m2 n_s0 n_s1 n_s2 v_keys v_asFound v_found v_turns v_places p_keys p_asFound p_found p_turns p_places i_sort i_howOften i_sorts i_moves n_uq n_u u_leasts u_howMany u_known n_wq n_w w_leasts w_howMany w_known t_signs t_length t_whole t_begins t_ends r_sorts r_numbers r_length) ++ wo) [.ref (h 0), .int l1, .int l2] ((xb G h x_hasImage f_places f_kinds f_weights f_howManyGenerators f_generators f_racks f_howManySeen f_seenFirst f_seenSecond f_seenIs f_seenPlaces f_howManyEvents f_eventWhat f_eventNumber g_places g_kinds g_weights g_howManyGenerators g_generators g_racks g_howManySeen g_seenFirst g_seenSecond g_seenIs g_seenPlaces g_howManyEvents g_eventWhat g_eventNumber n_m0 n_m1 n_m2 n_s0 n_s1 n_s2 v_keys v_asFound v_found v_turns v_places p_keys p_asFound p_found p_turns p_places i_sort i_howOften i_sorts i_moves n_uq n_u u_leasts u_howMany u_known n_wq n_w w_leasts w_howMany w_known t_signs t_length t_whole t_begins t_ends r_sorts r_numbers r_length) ++ wo) (some (.int res)) 0 0 := by
  refine MX.of (plainFor_of_name (by decide)) (Nat.le_of_ble_eq_true rfl) ?_
  intro p e s m below meth c A X E hI ls hl
  obtain ⟨hx, hb, hml, hown, hts, hr, hlk⟩ := id X
  have hl : lv_has ls 3 [(0, .ref (h 0)), (1, .int l1), (2, .int l2)] := hl
  unfold f_X9_of at hf
  refine lv_aload_n (pc := 0) hx hb dX9_of_0 rfl (lv_at hl 0 rfl) ?_
  refine lv_iload_n (pc := 1) hx hb dX9_of_1 rfl (lv_at hl 1 rfl) ?_
  obtain ⟨t1, e1, hf⟩ := q_ob hf
  refine x_cVs (pc := 2) (st1 := [.int t1]) (w1 := ((xb G h x_hasImage f_places f_kinds f_weights f_howManyGenerators f_generators f_racks f_howManySeen f_seenFirst f_seenSecond f_seenIs f_seenPlaces f_howManyEvents f_eventWhat f_eventNumber g_places g_kinds g_weights g_howManyGenerators g_generators g_racks g_howManySeen g_seenFirst g_seenSecond g_seenIs g_seenPlaces g_howManyEvents g_eventWhat g_eventNumber n_m0 n_m1 n_m2 n_s0 n_s1 n_s2 v_keys v_asFound v_found v_turns v_places p_keys p_asFound p_found p_turns p_places i_sort i_howOften i_sorts i_moves n_uq n_u u_leasts u_howMany u_known n_wq n_w w_leasts w_howMany w_known t_signs t_length t_whole t_begins t_ends r_sorts r_numbers r_length) ++ wo)) X E hI (c_X9_isGenerator l G h e1) kv_X9_126 hd_X9_isGenerator ⟨rfl, rfl⟩ (by decide) 0 rfl rfl rfl rfl hl.1 rfl (Nat.le_of_ble_eq_true rfl) dX9_of_2 ⟨Nat.le_of_ble_eq_true rfl, Nat.le_of_ble_eq_true rfl⟩ rfl (fun H locs hI => ?_)
  refine lv_if_ne (pc := 5) (tgt := 10) hx hb dX9_of_5 (by decide) (fun c2 => ?_) (fun c2 => ?_)
  · have hf := q_in c2 hf
    refine lv_aload_n (pc := 10) hx hb dX9_of_10 rfl (lv_at hl 0 rfl) ?_
    refine lv_aload_n (pc := 11) hx hb dX9_of_11 rfl (lv_at hl 0 rfl) ?_
    refine x_get (pc := 12) X E hI inX9 0 rfl rfl 0 (by decide) tw_2_7 rfl dX9_of_12 ?_
    refine x_get (pc := 15) X E hI inX3 1 rfl rfl 4 (by decide) tw_1_43 rfl dX9_of_15 ?_
    refine lv_iload_n (pc := 18) hx hb dX9_of_18 rfl (lv_at hl 1 rfl) ?_
    obtain ⟨t3, e3, hf⟩ := q_ob hf
    refine x_iald (pc := 19) X E hI 3 rfl e3 dX9_of_19 ?_
    refine lv_iload_n (pc := 20) hx hb dX9_of_20 rfl (lv_at hl 2 rfl) ?_
    obtain ⟨t4, e4, hf⟩ := q_ob hf
    refine x_cVs (pc := 21) (st1 := [.int t4]) (w1 := ((xb G h x_hasImage f_places f_kinds f_weights f_howManyGenerators f_generators f_racks f_howManySeen f_seenFirst f_seenSecond f_seenIs f_seenPlaces f_howManyEvents f_eventWhat f_eventNumber g_places g_kinds g_weights g_howManyGenerators g_generators g_racks g_howManySeen g_seenFirst g_seenSecond g_seenIs g_seenPlaces g_howManyEvents g_eventWhat g_eventNumber n_m0 n_m1 n_m2 n_s0 n_s1 n_s2 v_keys v_asFound v_found v_turns v_places p_keys p_asFound p_found p_turns p_places i_sort i_howOften i_sorts i_moves n_uq n_u u_leasts u_howMany u_known n_wq n_w w_leasts w_howMany w_known t_signs t_length t_whole t_begins t_ends r_sorts r_numbers r_length) ++ wo)) X E hI (c_X9_tellMove l G h e4) kv_X9_129 hd_X9_tellMove ⟨rfl, rfl⟩ (by decide) 0 rfl rfl rfl rfl hl.1 rfl (Nat.le_of_ble_eq_true rfl) dX9_of_21 ⟨Nat.le_of_ble_eq_true rfl, Nat.le_of_ble_eq_true rfl⟩ rfl (fun H locs hI => ?_)
    obtain rfl := Option.some.inj hf
    exact x_iret X hI dX9_of_24
  · have hf := q_ip c2 hf
    refine lv_iconst (pc := 8) (v := (-1)) hx hb dX9_of_8 (by decide) ?_
    obtain rfl := Option.some.inj hf
    exact x_iret X hI dX9_of_9

