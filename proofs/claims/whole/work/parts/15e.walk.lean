abbrev rm_X9_heavy_n : Room := { frames := 1, cells := 0, slots := 0, locals := 20 }
set_option maxHeartbeats 4000000 in
set_option maxRecDepth 100000 in
theorem c_X9_heavy_n (l : Launch) (G : GX) (h : Nat → Nat) {l1 : Int32} {l2 : Int32} {x_hasImage : Int32} {f_places : Int32} {f_kinds : Int32} {f_weights : Nat → Int32} {f_howManyGenerators : Int32} {f_generators : Nat → Int32} {f_racks : Nat → Int32} {f_howManySeen : Int32} {f_seenFirst : Nat → Int32} {f_seenSecond : Nat → Int32} {f_seenIs : Nat → Int32} {f_seenPlaces : Nat → Int32} {f_howManyEvents : Int32} {f_eventWhat : Nat → Int32} {f_eventNumber : Nat → Int32} {g_places : Int32} {g_kinds : Int32} {g_weights : Nat → Int32} {g_howManyGenerators : Int32} {g_generators : Nat → Int32} {g_racks : Nat → Int32} {g_howManySeen : Int32} {g_seenFirst : Nat → Int32} {g_seenSecond : Nat → Int32} {g_seenIs : Nat → Int32} {g_seenPlaces : Nat → Int32} {g_howManyEvents : Int32} {g_eventWhat : Nat → Int32} {g_eventNumber : Nat → Int32} {n_m0 : Nat} {n_m1 : Nat} {n_m2 : Nat} {n_s0 : Nat} {n_s1 : Nat} {n_s2 : Nat} {v_keys : Nat → Int32} {v_asFound : Nat → Int32} {v_found : Int32} {v_turns : Int32} {v_places : Int32} {p_keys : Nat → Int32} {p_asFound : Nat → Int32} {p_found : Int32} {p_turns : Int32} {p_places : Int32} {i_sort : Nat → Int32} {i_howOften : Nat → Int32} {i_sorts : Int32} {i_moves : Int32} {n_uq : Nat} {n_u : Nat} {u_leasts : Nat → Int32} {u_howMany : Int32} {u_known : Int32} {n_wq : Nat} {n_w : Nat} {w_leasts : Nat → Int32} {w_howMany : Int32} {w_known : Int32} {t_signs : Nat → Int32} {t_length : Int32} {t_whole : Int32} {t_begins : Nat → Int32} {t_ends : Nat → Int32} {r_sorts : Nat → Int32} {r_numbers : Nat → Int32} {r_length : Int32} {wo : va_W} {res : Int32} (hf : f_X9_heavy_n l1 l2 = some res) : MX l yX9_heavy cX9_heavy 6 (some .int) rm_X9_heavy_n G ((xb G h x_hasImage f_places f_kinds f_weights f_howManyGenerators f_generators f_racks f_howManySeen f_seenFirst f_seenSecond f_seenIs f_seenPlaces f_howManyEvents f_eventWhat f_eventNumber g_places g_kinds g_weights g_howManyGenerators g_generators g_racks g_howManySeen g_seenFirst g_seenSecond g_seenIs g_seenPlaces g_howManyEvents g_eventWhat g_eventNumber n_m0 n_m1 n_m2 n_s0 n_s1 n_s2 v_keys v_asFound v_found v_turns v_places p_keys p_asFound p_found p_turns p_places i_sort i_howOften i_sorts i_moves n_uq n_u u_leasts u_howMany u_known n_wq n_w w_leasts w_howMany w_known t_signs t_length t_whole t_begins t_ends r_sorts r_numbers r_length) ++ wo) [.ref (h 0), .int l1, .int l2] ((xb G h x_hasImage f_places f_kinds f_weights f_howManyGenerators f_generators f_racks f_howManySeen f_seenFirst f_seenSecond f_seenIs f_seenPlaces f_howManyEvents f_eventWhat f_eventNumber g_places g_kinds g_weights g_howManyGenerators g_generators g_racks g_howManySeen g_seenFirst g_seenSecond g_seenIs g_seenPlaces g_howManyEvents g_eventWhat g_eventNumber n_m0 n_m1 n_m2 n_s0 n_s1 n_s2 v_keys v_asFound v_found v_turns v_places p_keys p_asFound p_found p_turns p_places i_sort i_howOften i_sorts i_moves n_uq n_u u_leasts u_howMany u_known n_wq n_w w_leasts w_howMany w_known t_signs t_length t_whole t_begins t_ends r_sorts r_numbers r_length) ++ wo) (some (.int res)) 0 0 := by
  refine MX.of (plainFor_of_name (by decide)) (Nat.le_of_ble_eq_true rfl) ?_
  intro p e s m below meth c A X E hI ls hl
  obtain ⟨hx, hb, hml, hown, hts, hr, hlk⟩ := id X
  have hl : lv_has ls 6 [(0, .ref (h 0)), (1, .int l1), (2, .int l2)] := hl
  unfold f_X9_heavy_n at hf
  refine lv_iload_n (pc := 0) hx hb dX9_heavy_0 rfl (lv_at hl 1 rfl) ?_
  obtain ⟨t1, e1, hf⟩ := q_ob hf
  refine x_cSn (pc := 1) (st1 := [.int t1]) X E hI (c_X9_isFlag l G e1) ks_X9_99 hd_X9_isFlag ⟨rfl, rfl⟩ (by decide) rfl hl.1 rfl (Nat.le_of_ble_eq_true rfl) dX9_heavy_1 ⟨Nat.le_of_ble_eq_true rfl, Nat.le_of_ble_eq_true rfl⟩ rfl (fun H locs hI => ?_)
  refine lv_if_ne (pc := 4) (tgt := 9) hx hb dX9_heavy_4 (by decide) (fun c2 => ?_) (fun c2 => ?_)
  · have hf := q_in c2 hf
    refine lv_iload_n (pc := 9) hx hb dX9_heavy_9 rfl (lv_at hl 2 rfl) ?_
    refine lv_if_lt (pc := 10) (tgt := 19) hx hb dX9_heavy_10 (by decide) (fun c3 => ?_) (fun c3 => ?_)
    · have hf := q_ip c3 hf
      refine lv_bipush (pc := 19) (v := (-2)) hx hb dX9_heavy_19 (by decide) ?_
      obtain rfl := Option.some.inj hf
      exact x_iret X hI dX9_heavy_21
    · have hf := q_in c3 hf
      refine lv_iload_n (pc := 13) hx hb dX9_heavy_13 rfl (lv_at hl 2 rfl) ?_
      refine lv_bipush (pc := 14) (v := 99) hx hb dX9_heavy_14 (by decide) ?_
      refine lv_icmp_le (pc := 16) (tgt := 22) hx hb dX9_heavy_16 (by decide) (fun c4 => ?_) (fun c4 => ?_)
      · have hf := q_ip c4 hf
        refine lv_aload_n (pc := 22) hx hb dX9_heavy_22 rfl (lv_at hl 0 rfl) ?_
        refine lv_iload_n (pc := 23) hx hb dX9_heavy_23 rfl (lv_at hl 1 rfl) ?_
        exact nomatch hf
      · have hf := q_in c4 hf
        refine lv_bipush (pc := 19) (v := (-2)) hx hb dX9_heavy_19 (by decide) ?_
        obtain rfl := Option.some.inj hf
        exact x_iret X hI dX9_heavy_21
  · have hf := q_ip c2 hf
    refine lv_iconst (pc := 7) (v := (-1)) hx hb dX9_heavy_7 (by decide) ?_
    obtain rfl := Option.some.inj hf
    exact x_iret X hI dX9_heavy_8

abbrev rm_X9_use_0 : Room := { frames := 4, cells := 1, slots := 4096, locals := 96 }
set_option maxHeartbeats 4000000 in
set_option maxRecDepth 100000 in
theorem k_X9_use_0_L35 {p : Program} {l : Launch} {e : Env} {s : State} {m : MethodId} {args : Array Value} {below : List Frame} {meth : Method} {c : Code} {A : Nat → Prop} {G : GX} {h : Nat → Nat} {l2 : Int32} {x_hasImage : Int32} {f_places : Int32} {f_kinds : Int32} {f_weights : Nat → Int32} {f_howManyGenerators : Int32} {f_generators : Nat → Int32} {f_racks : Nat → Int32} {f_howManySeen : Int32} {f_seenFirst : Nat → Int32} {f_seenSecond : Nat → Int32} {f_seenIs : Nat → Int32} {f_seenPlaces : Nat → Int32} {f_howManyEvents : Int32} {f_eventWhat : Nat → Int32} {f_eventNumber : Nat → Int32} {g_places : Int32} {g_kinds : Int32} {g_weights : Nat → Int32} {g_howManyGenerators : Int32} {g_generators : Nat → Int32} {g_racks : Nat → Int32} {g_howManySeen : Int32} {g_seenFirst : Nat → Int32} {g_seenSecond : Nat → Int32} {g_seenIs : Nat → Int32} {g_seenPlaces : Nat → Int32} {g_howManyEvents : Int32} {g_eventWhat : Nat → Int32} {g_eventNumber : Nat → Int32} {n_m0 : Nat} {n_m1 : Nat} {n_m2 : Nat} {n_s0 : Nat} {n_s1 : Nat} {n_s2 : Nat} {v_keys : Nat → Int32} {v_asFound : Nat → Int32} {v_found : Int32} {v_turns : Int32} {v_places : Int32} {p_keys : Nat → Int32} {p_asFound : Nat → Int32} {p_found : Int32} {p_turns : Int32} {p_places : Int32} {i_sort : Nat → Int32} {i_howOften : Nat → Int32} {i_sorts : Int32} {i_moves : Int32} {n_uq : Nat} {n_u : Nat} {u_leasts : Nat → Int32} {u_howMany : Int32} {u_known : Int32} {n_wq : Nat} {n_w : Nat} {w_leasts : Nat → Int32} {w_howMany : Int32} {w_known : Int32} {t_signs : Nat → Int32} {t_length : Int32} {t_whole : Int32} {t_begins : Nat → Int32} {t_ends : Nat → Int32} {r_sorts : Nat → Int32} {r_numbers : Nat → Int32} {r_length : Int32} {wo : va_W} {K : Int32 → Int32 → Option (Int32 × Nat × (Nat → Int32) × Int32 × Int32)} {res : Int32 × Nat × (Nat → Int32) × Int32 × Int32} (X : CX RX9 cX9_use 6 (some .int) p s m args meth c) (E : EX G A s)
    (hK : ∀ (l4 : Int32) (l5 : Int32) (H : Heap) (locs : List Loc) (ls : Array Slot), IN A G ((xb G h x_hasImage f_places f_kinds f_weights f_howManyGenerators f_generators f_racks f_howManySeen f_seenFirst f_seenSecond f_seenIs f_seenPlaces f_howManyEvents f_eventWhat f_eventNumber g_places g_kinds g_weights g_howManyGenerators g_generators g_racks g_howManySeen g_seenFirst g_seenSecond g_seenIs g_seenPlaces g_howManyEvents g_eventWhat g_eventNumber n_m0 n_m1 n_m2 n_s0 n_s1 n_s2 v_keys v_asFound v_found v_turns v_places p_keys p_asFound p_found p_turns p_places i_sort i_howOften i_sorts i_moves n_uq n_u u_leasts u_howMany u_known n_wq n_w w_leasts w_howMany w_known t_signs t_length t_whole t_begins t_ends r_sorts r_numbers r_length) ++ wo) s H locs → lv_has ls 6 [(0, .ref (h 0)), (2, .int l2), (3, .ref (h 24)), (4, .int l4), (5, .int l5)] → K l4 l5 = some res → W p l e rm_X9_use_0 s m args below meth c H locs 1 4096 (MQ below (QE G A (fun q : Nat => ((xb G h x_hasImage f_places f_kinds f_weights f_howManyGenerators f_generators f_racks f_howManySeen f_seenFirst f_seenSecond f_seenIs f_seenPlaces f_howManyEvents f_eventWhat f_eventNumber g_places g_kinds g_weights g_howManyGenerators g_generators g_racks g_howManySeen g_seenFirst g_seenSecond g_seenIs g_seenPlaces g_howManyEvents g_eventWhat g_eventNumber n_m0 n_m1 n_m2 n_s0 n_s1 n_s2 v_keys v_asFound v_found v_turns v_places p_keys p_asFound p_found p_turns p_places i_sort i_howOften i_sorts i_moves q res.2.1 res.2.2.1 res.2.2.2.1 res.2.2.2.2 n_wq n_w w_leasts w_howMany w_known t_signs t_length t_whole t_begins t_ends r_sorts r_numbers r_length) ++ wo)) (some (.int res.1))) args s 1 4096 A) (F0 m 74 ls [])) :
    ∀ {k : Nat} {l4 : Int32} {l5 : Int32} {H : Heap} {locs : List Loc} {ls : Array Slot}, IN A G ((xb G h x_hasImage f_places f_kinds f_weights f_howManyGenerators f_generators f_racks f_howManySeen f_seenFirst f_seenSecond f_seenIs f_seenPlaces f_howManyEvents f_eventWhat f_eventNumber g_places g_kinds g_weights g_howManyGenerators g_generators g_racks g_howManySeen g_seenFirst g_seenSecond g_seenIs g_seenPlaces g_howManyEvents g_eventWhat g_eventNumber n_m0 n_m1 n_m2 n_s0 n_s1 n_s2 v_keys v_asFound v_found v_turns v_places p_keys p_asFound p_found p_turns p_places i_sort i_howOften i_sorts i_moves n_uq n_u u_leasts u_howMany u_known n_wq n_w w_leasts w_howMany w_known t_signs t_length t_whole t_begins t_ends r_sorts r_numbers r_length) ++ wo) s H locs → lv_has ls 6 [(0, .ref (h 0)), (2, .int l2), (3, .ref (h 24)), (4, .int l4), (5, .int l5)] → f_X9_use_0_L35 l2 f_places n_u u_leasts u_howMany K k l4 l5 = some res → W p l e rm_X9_use_0 s m args below meth c H locs 1 4096 (MQ below (QE G A (fun q : Nat => ((xb G h x_hasImage f_places f_kinds f_weights f_howManyGenerators f_generators f_racks f_howManySeen f_seenFirst f_seenSecond f_seenIs f_seenPlaces f_howManyEvents f_eventWhat f_eventNumber g_places g_kinds g_weights g_howManyGenerators g_generators g_racks g_howManySeen g_seenFirst g_seenSecond g_seenIs g_seenPlaces g_howManyEvents g_eventWhat g_eventNumber n_m0 n_m1 n_m2 n_s0 n_s1 n_s2 v_keys v_asFound v_found v_turns v_places p_keys p_asFound p_found p_turns p_places i_sort i_howOften i_sorts i_moves q res.2.1 res.2.2.1 res.2.2.2.1 res.2.2.2.2 n_wq n_w w_leasts w_howMany w_known t_signs t_length t_whole t_begins t_ends r_sorts r_numbers r_length) ++ wo)) (some (.int res.1))) args s 1 4096 A) (F0 m 35 ls []) := by
  obtain ⟨hx, hb, hml, hown, hts, hr, hlk⟩ := id X
  intro k
  induction k with
  | zero => intro l4 l5 H locs ls hI hl hf; exact nomatch (show none = some res from hf)
  | succ k ih =>
    intro l4 l5 H locs ls hI hl hf
    rw [f_X9_use_0_L35] at hf
    refine lv_iload (pc := 35) hx hb dX9_use_35 (lv_at hl 4 rfl) ?_
    refine lv_aload_n (pc := 37) hx hb dX9_use_37 rfl (lv_at hl 2 rfl) ?_
    refine x_get (pc := 38) X E hI inX1 30 rfl rfl 1 (by decide) tw_1_152 rfl dX9_use_38 ?_
    refine lv_icmp_ge (pc := 41) (tgt := 74) hx hb dX9_use_41 (by decide) (fun c1 => ?_) (fun c1 => ?_)
    · have hf := q_ip c1 hf
      exact hK _ _ _ _ _ hI (lv_sub hl [0, 1, 2, 3, 4] rfl) hf
    · have hf := q_in c1 hf
      refine lv_aload_n (pc := 44) hx hb dX9_use_44 rfl (lv_at hl 2 rfl) ?_
      refine x_get (pc := 45) X E hI inX1 30 rfl rfl 0 (by decide) tw_1_150 rfl dX9_use_45 ?_
      refine lv_iload (pc := 48) hx hb dX9_use_48 (lv_at hl 4 rfl) ?_
      obtain ⟨t2, e2, hf⟩ := q_ob hf
      refine x_iald (pc := 50) X E hI 31 rfl e2 dX9_use_50 ?_
      refine lv_aload_n (pc := 51) hx hb dX9_use_51 rfl (lv_at hl 0 rfl) ?_
      refine x_get (pc := 52) X E hI inX9 0 rfl rfl 0 (by decide) tw_2_7 rfl dX9_use_52 ?_
      refine x_get (pc := 55) X E hI inX3 1 rfl rfl 0 (by decide) tw_1_35 rfl dX9_use_55 ?_
      obtain ⟨t3, e3, hf⟩ := q_ob hf
      refine x_cSn (pc := 58) (st1 := [.int t3]) X E hI (c_X2_howOftenEach l G e3) ks_X9_208 hd_X2_howOftenEach ⟨rfl, rfl⟩ (by decide) rfl hl.1 rfl (Nat.le_of_ble_eq_true rfl) dX9_use_58 ⟨Nat.le_of_ble_eq_true rfl, Nat.le_of_ble_eq_true rfl⟩ rfl (fun H locs hI => ?_)
      refine lv_iload_n (pc := 61) hx hb dX9_use_61 rfl (lv_at hl 1 rfl) ?_
      refine lv_icmp_ne (pc := 62) (tgt := 68) hx hb dX9_use_62 (by decide) (fun c4 => ?_) (fun c4 => ?_)
      · have hf := q_in c4 hf
        refine lv_iinc (pc := 68) (v := l5 + 1) (lv' := [(5, .int (l5 + 1)), (0, .ref (h 0)), (2, .int l2), (3, .ref (h 24)), (4, .int l4)]) hx hb dX9_use_68 hl (k := 4) rfl rfl (by decide) rfl (fun ls hl => ?_)
        refine lv_goto (pc := 71) (tgt := 35) hx hb dX9_use_71 (by decide) ?_
        exact ih hI (lv_sub hl [1, 2, 3, 4, 0] rfl) hf
      · have hf := q_ip c4 hf
        refine lv_iinc (pc := 65) (v := l4 + 1) (lv' := [(4, .int (l4 + 1)), (0, .ref (h 0)), (2, .int l2), (3, .ref (h 24)), (5, .int l5)]) hx hb dX9_use_65 hl (k := 3) rfl rfl (by decide) rfl (fun ls hl => ?_)
        refine lv_iinc (pc := 68) (v := l5 + 1) (lv' := [(5, .int (l5 + 1)), (4, .int (l4 + 1)), (0, .ref (h 0)), (2, .int l2), (3, .ref (h 24))]) hx hb dX9_use_68 hl (k := 4) rfl rfl (by decide) rfl (fun ls hl => ?_)
        refine lv_goto (pc := 71) (tgt := 35) hx hb dX9_use_71 (by decide) ?_
        exact ih hI (lv_sub hl [2, 3, 4, 1, 0] rfl) hf

set_option maxHeartbeats 4000000 in
set_option maxRecDepth 100000 in
theorem c_X9_use_0 (l : Launch) (G : GX) (h : Nat → Nat) {l2 : Int32} {f_places : Int32} {f_kinds : Int32} {v_keys : Nat → Int32} {v_found : Int32} {v_places : Int32} {n_u : Nat} {u_leasts : Nat → Int32} {u_howMany : Int32} {u_known : Int32} {x_hasImage : Int32} {f_weights : Nat → Int32} {f_howManyGenerators : Int32} {f_generators : Nat → Int32} {f_racks : Nat → Int32} {f_howManySeen : Int32} {f_seenFirst : Nat → Int32} {f_seenSecond : Nat → Int32} {f_seenIs : Nat → Int32} {f_seenPlaces : Nat → Int32} {f_howManyEvents : Int32} {f_eventWhat : Nat → Int32} {f_eventNumber : Nat → Int32} {g_places : Int32} {g_kinds : Int32} {g_weights : Nat → Int32} {g_howManyGenerators : Int32} {g_generators : Nat → Int32} {g_racks : Nat → Int32} {g_howManySeen : Int32} {g_seenFirst : Nat → Int32} {g_seenSecond : Nat → Int32} {g_seenIs : Nat → Int32} {g_seenPlaces : Nat → Int32} {g_howManyEvents : Int32} {g_eventWhat : Nat → Int32} {g_eventNumber : Nat → Int32} {n_m0 : Nat} {n_m1 : Nat} {n_m2 : Nat} {n_s0 : Nat} {n_s1 : Nat} {n_s2 : Nat} {v_asFound : Nat → Int32} {v_turns : Int32} {p_keys : Nat → Int32} {p_asFound : Nat → Int32} {p_found : Int32} {p_turns : Int32} {p_places : Int32} {i_sort : Nat → Int32} {i_howOften : Nat → Int32} {i_sorts : Int32} {i_moves : Int32} {n_uq : Nat} {n_wq : Nat} {n_w : Nat} {w_leasts : Nat → Int32} {w_howMany : Int32} {w_known : Int32} {t_signs : Nat → Int32} {t_length : Int32} {t_whole : Int32} {t_begins : Nat → Int32} {t_ends : Nat → Int32} {r_sorts : Nat → Int32} {r_numbers : Nat → Int32} {r_length : Int32} {wo : va_W} {res : Int32 × Nat × (Nat → Int32) × Int32 × Int32} (hf : f_X9_use_0 l2 f_places f_kinds v_keys v_found v_places n_u u_leasts u_howMany u_known = some res) : ME l yX9_use cX9_use 6 (some .int) rm_X9_use_0 G ((xb G h x_hasImage f_places f_kinds f_weights f_howManyGenerators f_generators f_racks f_howManySeen f_seenFirst f_seenSecond f_seenIs f_seenPlaces f_howManyEvents f_eventWhat f_eventNumber g_places g_kinds g_weights g_howManyGenerators g_generators g_racks g_howManySeen g_seenFirst g_seenSecond g_seenIs g_seenPlaces g_howManyEvents g_eventWhat g_eventNumber n_m0 n_m1 n_m2 n_s0 n_s1 n_s2 v_keys v_asFound v_found v_turns v_places p_keys p_asFound p_found p_turns p_places i_sort i_howOften i_sorts i_moves n_uq n_u u_leasts u_howMany u_known n_wq n_w w_leasts w_howMany w_known t_signs t_length t_whole t_begins t_ends r_sorts r_numbers r_length) ++ wo) [.ref (h 0), .int 0, .int l2] (fun q : Nat => ((xb G h x_hasImage f_places f_kinds f_weights f_howManyGenerators f_generators f_racks f_howManySeen f_seenFirst f_seenSecond f_seenIs f_seenPlaces f_howManyEvents f_eventWhat f_eventNumber g_places g_kinds g_weights g_howManyGenerators g_generators g_racks g_howManySeen g_seenFirst g_seenSecond g_seenIs g_seenPlaces g_howManyEvents g_eventWhat g_eventNumber n_m0 n_m1 n_m2 n_s0 n_s1 n_s2 v_keys v_asFound v_found v_turns v_places p_keys p_asFound p_found p_turns p_places i_sort i_howOften i_sorts i_moves q res.2.1 res.2.2.1 res.2.2.2.1 res.2.2.2.2 n_wq n_w w_leasts w_howMany w_known t_signs t_length t_whole t_begins t_ends r_sorts r_numbers r_length) ++ wo)) (some (.int res.1)) 1 4096 := by
  refine ME.of (plainFor_of_name (by decide)) (Nat.le_of_ble_eq_true rfl) ?_
  intro p e s m below meth c A X E hI ls hl
  obtain ⟨hx, hb, hml, hown, hts, hr, hlk⟩ := id X
  have hl : lv_has ls 6 [(0, .ref (h 0)), (1, .int 0), (2, .int l2)] := hl
  unfold f_X9_use_0 at hf
  refine lv_iload_n (pc := 0) hx hb dX9_use_0 rfl (lv_at hl 1 rfl) ?_
  obtain ⟨t1, e1, hf⟩ := q_ob hf
  refine x_cSn (pc := 1) (st1 := [.int t1]) X E hI (c_X9_isFlag l G e1) ks_X9_99 hd_X9_isFlag ⟨rfl, rfl⟩ (by decide) rfl hl.1 rfl (Nat.le_of_ble_eq_true rfl) dX9_use_1 ⟨Nat.le_of_ble_eq_true rfl, Nat.le_of_ble_eq_true rfl⟩ rfl (fun H locs hI => ?_)
  refine lv_if_ne (pc := 4) (tgt := 9) hx hb dX9_use_4 (by decide) (fun c2 => ?_) (fun c2 => ?_)
  · have hf := q_in c2 hf
    refine lv_iload_n (pc := 9) hx hb dX9_use_9 rfl (lv_at hl 2 rfl) ?_
    refine lv_if_lt (pc := 10) (tgt := 20) hx hb dX9_use_10 (by decide) (fun c3 => ?_) (fun c3 => ?_)
    · have hf := q_ip c3 hf
      refine lv_bipush (pc := 20) (v := (-2)) hx hb dX9_use_20 (by decide) ?_
      obtain rfl := Option.some.inj hf
      refine W.widen (k := 1) (n := 4096) (by decide) (by decide) ?_
      exact x_iretE n_uq X hI dX9_use_22
    · have hf := q_in c3 hf
      refine lv_iload_n (pc := 13) hx hb dX9_use_13 rfl (lv_at hl 2 rfl) ?_
      refine lv_sipush (pc := 14) (v := 9999) hx hb dX9_use_14 (by decide) ?_
      refine lv_icmp_le (pc := 17) (tgt := 23) hx hb dX9_use_17 (by decide) (fun c4 => ?_) (fun c4 => ?_)
      · have hf := q_ip c4 hf
        refine lv_aload_n (pc := 23) hx hb dX9_use_23 rfl (lv_at hl 0 rfl) ?_
        refine lv_iload_n (pc := 24) hx hb dX9_use_24 rfl (lv_at hl 1 rfl) ?_
        obtain ⟨t5, e5, hf⟩ := q_ob hf
        refine x_cVsE (pc := 25) (st1 := [.ref (h 24)]) X E hI (c_X9_classesBy_0 l G h e5) kv_X9_195 hd_X9_classesBy ⟨rfl, rfl⟩ (by decide) 0 rfl rfl rfl rfl hl.1 rfl (Nat.le_of_ble_eq_true rfl) dX9_use_25 ⟨Nat.le_of_ble_eq_true rfl, Nat.le_of_ble_eq_true rfl⟩ rfl (fun q5 H locs hI => ?_)
        have hI : IN A G ((xb G h x_hasImage f_places f_kinds f_weights f_howManyGenerators f_generators f_racks f_howManySeen f_seenFirst f_seenSecond f_seenIs f_seenPlaces f_howManyEvents f_eventWhat f_eventNumber g_places g_kinds g_weights g_howManyGenerators g_generators g_racks g_howManySeen g_seenFirst g_seenSecond g_seenIs g_seenPlaces g_howManyEvents g_eventWhat g_eventNumber n_m0 n_m1 n_m2 n_s0 n_s1 n_s2 v_keys v_asFound v_found v_turns v_places p_keys p_asFound p_found p_turns p_places i_sort i_howOften i_sorts i_moves q5 t5.1 t5.2.1 t5.2.2.1 t5.2.2.2 n_wq n_w w_leasts w_howMany w_known t_signs t_length t_whole t_begins t_ends r_sorts r_numbers r_length) ++ wo) s H locs := hI
        refine lv_astore_n (pc := 28) (lv' := [(3, .ref (h 24)), (0, .ref (h 0)), (1, .int 0), (2, .int l2)]) hx hb dX9_use_28 rfl hl (by decide) rfl (fun ls hl => ?_)
        refine lv_iconst (pc := 29) (v := 0) hx hb dX9_use_29 (by decide) ?_
        refine lv_istore (pc := 30) (lv' := [(4, .int 0), (3, .ref (h 24)), (0, .ref (h 0)), (1, .int 0), (2, .int l2)]) hx hb dX9_use_30 hl (by decide) rfl (fun ls hl => ?_)
        refine lv_iconst (pc := 32) (v := 0) hx hb dX9_use_32 (by decide) ?_
        refine lv_istore (pc := 33) (lv' := [(5, .int 0), (4, .int 0), (3, .ref (h 24)), (0, .ref (h 0)), (1, .int 0), (2, .int l2)]) hx hb dX9_use_33 hl (by decide) rfl (fun ls hl => ?_)
        refine k_X9_use_0_L35 X E (fun l4_6 l5_6 H locs ls hI hl hf => ?_) hI (lv_sub hl [3, 5, 2, 1, 0] rfl) hf
        refine lv_iload (pc := 74) hx hb dX9_use_74 (lv_at hl 3 rfl) ?_
        obtain rfl := Option.some.inj hf
        exact x_iretE q5 X hI dX9_use_76
      · have hf := q_in c4 hf
        refine lv_bipush (pc := 20) (v := (-2)) hx hb dX9_use_20 (by decide) ?_
        obtain rfl := Option.some.inj hf
        refine W.widen (k := 1) (n := 4096) (by decide) (by decide) ?_
        exact x_iretE n_uq X hI dX9_use_22
  · have hf := q_ip c2 hf
    refine lv_iconst (pc := 7) (v := (-1)) hx hb dX9_use_7 (by decide) ?_
    obtain rfl := Option.some.inj hf
    refine W.widen (k := 1) (n := 4096) (by decide) (by decide) ?_
    exact x_iretE n_uq X hI dX9_use_8

abbrev rm_X9_use_1 : Room := { frames := 4, cells := 1, slots := 4096, locals := 96 }
set_option maxHeartbeats 4000000 in
set_option maxRecDepth 100000 in
theorem k_X9_use_1_L35 {p : Program} {l : Launch} {e : Env} {s : State} {m : MethodId} {args : Array Value} {below : List Frame} {meth : Method} {c : Code} {A : Nat → Prop} {G : GX} {h : Nat → Nat} {l2 : Int32} {x_hasImage : Int32} {f_places : Int32} {f_kinds : Int32} {f_weights : Nat → Int32} {f_howManyGenerators : Int32} {f_generators : Nat → Int32} {f_racks : Nat → Int32} {f_howManySeen : Int32} {f_seenFirst : Nat → Int32} {f_seenSecond : Nat → Int32} {f_seenIs : Nat → Int32} {f_seenPlaces : Nat → Int32} {f_howManyEvents : Int32} {f_eventWhat : Nat → Int32} {f_eventNumber : Nat → Int32} {g_places : Int32} {g_kinds : Int32} {g_weights : Nat → Int32} {g_howManyGenerators : Int32} {g_generators : Nat → Int32} {g_racks : Nat → Int32} {g_howManySeen : Int32} {g_seenFirst : Nat → Int32} {g_seenSecond : Nat → Int32} {g_seenIs : Nat → Int32} {g_seenPlaces : Nat → Int32} {g_howManyEvents : Int32} {g_eventWhat : Nat → Int32} {g_eventNumber : Nat → Int32} {n_m0 : Nat} {n_m1 : Nat} {n_m2 : Nat} {n_s0 : Nat} {n_s1 : Nat} {n_s2 : Nat} {v_keys : Nat → Int32} {v_asFound : Nat → Int32} {v_found : Int32} {v_turns : Int32} {v_places : Int32} {p_keys : Nat → Int32} {p_asFound : Nat → Int32} {p_found : Int32} {p_turns : Int32} {p_places : Int32} {i_sort : Nat → Int32} {i_howOften : Nat → Int32} {i_sorts : Int32} {i_moves : Int32} {n_uq : Nat} {n_u : Nat} {u_leasts : Nat → Int32} {u_howMany : Int32} {u_known : Int32} {n_wq : Nat} {n_w : Nat} {w_leasts : Nat → Int32} {w_howMany : Int32} {w_known : Int32} {t_signs : Nat → Int32} {t_length : Int32} {t_whole : Int32} {t_begins : Nat → Int32} {t_ends : Nat → Int32} {r_sorts : Nat → Int32} {r_numbers : Nat → Int32} {r_length : Int32} {wo : va_W} {K : Int32 → Int32 → Option (Int32 × Nat × (Nat → Int32) × Int32 × Int32)} {res : Int32 × Nat × (Nat → Int32) × Int32 × Int32} (X : CX RX9 cX9_use 6 (some .int) p s m args meth c) (E : EX G A s)
    (hK : ∀ (l4 : Int32) (l5 : Int32) (H : Heap) (locs : List Loc) (ls : Array Slot), IN A G ((xb G h x_hasImage f_places f_kinds f_weights f_howManyGenerators f_generators f_racks f_howManySeen f_seenFirst f_seenSecond f_seenIs f_seenPlaces f_howManyEvents f_eventWhat f_eventNumber g_places g_kinds g_weights g_howManyGenerators g_generators g_racks g_howManySeen g_seenFirst g_seenSecond g_seenIs g_seenPlaces g_howManyEvents g_eventWhat g_eventNumber n_m0 n_m1 n_m2 n_s0 n_s1 n_s2 v_keys v_asFound v_found v_turns v_places p_keys p_asFound p_found p_turns p_places i_sort i_howOften i_sorts i_moves n_uq n_u u_leasts u_howMany u_known n_wq n_w w_leasts w_howMany w_known t_signs t_length t_whole t_begins t_ends r_sorts r_numbers r_length) ++ wo) s H locs → lv_has ls 6 [(0, .ref (h 0)), (2, .int l2), (3, .ref (h 25)), (4, .int l4), (5, .int l5)] → K l4 l5 = some res → W p l e rm_X9_use_1 s m args below meth c H locs 1 4096 (MQ below (QE G A (fun q : Nat => ((xb G h x_hasImage f_places f_kinds f_weights f_howManyGenerators f_generators f_racks f_howManySeen f_seenFirst f_seenSecond f_seenIs f_seenPlaces f_howManyEvents f_eventWhat f_eventNumber g_places g_kinds g_weights g_howManyGenerators g_generators g_racks g_howManySeen g_seenFirst g_seenSecond g_seenIs g_seenPlaces g_howManyEvents g_eventWhat g_eventNumber n_m0 n_m1 n_m2 n_s0 n_s1 n_s2 v_keys v_asFound v_found v_turns v_places p_keys p_asFound p_found p_turns p_places i_sort i_howOften i_sorts i_moves n_uq n_u u_leasts u_howMany u_known q res.2.1 res.2.2.1 res.2.2.2.1 res.2.2.2.2 t_signs t_length t_whole t_begins t_ends r_sorts r_numbers r_length) ++ wo)) (some (.int res.1))) args s 1 4096 A) (F0 m 74 ls [])) :
    ∀ {k : Nat} {l4 : Int32} {l5 : Int32} {H : Heap} {locs : List Loc} {ls : Array Slot}, IN A G ((xb G h x_hasImage f_places f_kinds f_weights f_howManyGenerators f_generators f_racks f_howManySeen f_seenFirst f_seenSecond f_seenIs f_seenPlaces f_howManyEvents f_eventWhat f_eventNumber g_places g_kinds g_weights g_howManyGenerators g_generators g_racks g_howManySeen g_seenFirst g_seenSecond g_seenIs g_seenPlaces g_howManyEvents g_eventWhat g_eventNumber n_m0 n_m1 n_m2 n_s0 n_s1 n_s2 v_keys v_asFound v_found v_turns v_places p_keys p_asFound p_found p_turns p_places i_sort i_howOften i_sorts i_moves n_uq n_u u_leasts u_howMany u_known n_wq n_w w_leasts w_howMany w_known t_signs t_length t_whole t_begins t_ends r_sorts r_numbers r_length) ++ wo) s H locs → lv_has ls 6 [(0, .ref (h 0)), (2, .int l2), (3, .ref (h 25)), (4, .int l4), (5, .int l5)] → f_X9_use_1_L35 l2 f_places n_w w_leasts w_howMany K k l4 l5 = some res → W p l e rm_X9_use_1 s m args below meth c H locs 1 4096 (MQ below (QE G A (fun q : Nat => ((xb G h x_hasImage f_places f_kinds f_weights f_howManyGenerators f_generators f_racks f_howManySeen f_seenFirst f_seenSecond f_seenIs f_seenPlaces f_howManyEvents f_eventWhat f_eventNumber g_places g_kinds g_weights g_howManyGenerators g_generators g_racks g_howManySeen g_seenFirst g_seenSecond g_seenIs g_seenPlaces g_howManyEvents g_eventWhat g_eventNumber n_m0 n_m1 n_m2 n_s0 n_s1 n_s2 v_keys v_asFound v_found v_turns v_places p_keys p_asFound p_found p_turns p_places i_sort i_howOften i_sorts i_moves n_uq n_u u_leasts u_howMany u_known q res.2.1 res.2.2.1 res.2.2.2.1 res.2.2.2.2 t_signs t_length t_whole t_begins t_ends r_sorts r_numbers r_length) ++ wo)) (some (.int res.1))) args s 1 4096 A) (F0 m 35 ls []) := by
  obtain ⟨hx, hb, hml, hown, hts, hr, hlk⟩ := id X
  intro k
  induction k with
  | zero => intro l4 l5 H locs ls hI hl hf; exact nomatch (show none = some res from hf)
  | succ k ih =>
    intro l4 l5 H locs ls hI hl hf
    rw [f_X9_use_1_L35] at hf
    refine lv_iload (pc := 35) hx hb dX9_use_35 (lv_at hl 4 rfl) ?_
    refine lv_aload_n (pc := 37) hx hb dX9_use_37 rfl (lv_at hl 2 rfl) ?_
    refine x_get (pc := 38) X E hI inX1 32 rfl rfl 1 (by decide) tw_1_152 rfl dX9_use_38 ?_
    refine lv_icmp_ge (pc := 41) (tgt := 74) hx hb dX9_use_41 (by decide) (fun c1 => ?_) (fun c1 => ?_)
    · have hf := q_ip c1 hf
      exact hK _ _ _ _ _ hI (lv_sub hl [0, 1, 2, 3, 4] rfl) hf
    · have hf := q_in c1 hf
      refine lv_aload_n (pc := 44) hx hb dX9_use_44 rfl (lv_at hl 2 rfl) ?_
      refine x_get (pc := 45) X E hI inX1 32 rfl rfl 0 (by decide) tw_1_150 rfl dX9_use_45 ?_
      refine lv_iload (pc := 48) hx hb dX9_use_48 (lv_at hl 4 rfl) ?_
      obtain ⟨t2, e2, hf⟩ := q_ob hf
      refine x_iald (pc := 50) X E hI 33 rfl e2 dX9_use_50 ?_
      refine lv_aload_n (pc := 51) hx hb dX9_use_51 rfl (lv_at hl 0 rfl) ?_
      refine x_get (pc := 52) X E hI inX9 0 rfl rfl 0 (by decide) tw_2_7 rfl dX9_use_52 ?_
      refine x_get (pc := 55) X E hI inX3 1 rfl rfl 0 (by decide) tw_1_35 rfl dX9_use_55 ?_
      obtain ⟨t3, e3, hf⟩ := q_ob hf
      refine x_cSn (pc := 58) (st1 := [.int t3]) X E hI (c_X2_howOftenEach l G e3) ks_X9_208 hd_X2_howOftenEach ⟨rfl, rfl⟩ (by decide) rfl hl.1 rfl (Nat.le_of_ble_eq_true rfl) dX9_use_58 ⟨Nat.le_of_ble_eq_true rfl, Nat.le_of_ble_eq_true rfl⟩ rfl (fun H locs hI => ?_)
      refine lv_iload_n (pc := 61) hx hb dX9_use_61 rfl (lv_at hl 1 rfl) ?_
      refine lv_icmp_ne (pc := 62) (tgt := 68) hx hb dX9_use_62 (by decide) (fun c4 => ?_) (fun c4 => ?_)
      · have hf := q_in c4 hf
        refine lv_iinc (pc := 68) (v := l5 + 1) (lv' := [(5, .int (l5 + 1)), (0, .ref (h 0)), (2, .int l2), (3, .ref (h 25)), (4, .int l4)]) hx hb dX9_use_68 hl (k := 4) rfl rfl (by decide) rfl (fun ls hl => ?_)
        refine lv_goto (pc := 71) (tgt := 35) hx hb dX9_use_71 (by decide) ?_
        exact ih hI (lv_sub hl [1, 2, 3, 4, 0] rfl) hf
      · have hf := q_ip c4 hf
        refine lv_iinc (pc := 65) (v := l4 + 1) (lv' := [(4, .int (l4 + 1)), (0, .ref (h 0)), (2, .int l2), (3, .ref (h 25)), (5, .int l5)]) hx hb dX9_use_65 hl (k := 3) rfl rfl (by decide) rfl (fun ls hl => ?_)
        refine lv_iinc (pc := 68) (v := l5 + 1) (lv' := [(5, .int (l5 + 1)), (4, .int (l4 + 1)), (0, .ref (h 0)), (2, .int l2), (3, .ref (h 25))]) hx hb dX9_use_68 hl (k := 4) rfl rfl (by decide) rfl (fun ls hl => ?_)
        refine lv_goto (pc := 71) (tgt := 35) hx hb dX9_use_71 (by decide) ?_
        exact ih hI (lv_sub hl [2, 3, 4, 1, 0] rfl) hf

set_option maxHeartbeats 4000000 in
set_option maxRecDepth 100000 in
theorem c_X9_use_1 (l : Launch) (G : GX) (h : Nat → Nat) {l2 : Int32} {f_places : Int32} {f_kinds : Int32} {v_keys : Nat → Int32} {v_found : Int32} {v_places : Int32} {n_w : Nat} {w_leasts : Nat → Int32} {w_howMany : Int32} {w_known : Int32} {x_hasImage : Int32} {f_weights : Nat → Int32} {f_howManyGenerators : Int32} {f_generators : Nat → Int32} {f_racks : Nat → Int32} {f_howManySeen : Int32} {f_seenFirst : Nat → Int32} {f_seenSecond : Nat → Int32} {f_seenIs : Nat → Int32} {f_seenPlaces : Nat → Int32} {f_howManyEvents : Int32} {f_eventWhat : Nat → Int32} {f_eventNumber : Nat → Int32} {g_places : Int32} {g_kinds : Int32} {g_weights : Nat → Int32} {g_howManyGenerators : Int32} {g_generators : Nat → Int32} {g_racks : Nat → Int32} {g_howManySeen : Int32} {g_seenFirst : Nat → Int32} {g_seenSecond : Nat → Int32} {g_seenIs : Nat → Int32} {g_seenPlaces : Nat → Int32} {g_howManyEvents : Int32} {g_eventWhat : Nat → Int32} {g_eventNumber : Nat → Int32} {n_m0 : Nat} {n_m1 : Nat} {n_m2 : Nat} {n_s0 : Nat} {n_s1 : Nat} {n_s2 : Nat} {v_asFound : Nat → Int32} {v_turns : Int32} {p_keys : Nat → Int32} {p_asFound : Nat → Int32} {p_found : Int32} {p_turns : Int32} {p_places : Int32} {i_sort : Nat → Int32} {i_howOften : Nat → Int32} {i_sorts : Int32} {i_moves : Int32} {n_uq : Nat} {n_u : Nat} {u_leasts : Nat → Int32} {u_howMany : Int32} {u_known : Int32} {n_wq : Nat} {t_signs : Nat → Int32} {t_length : Int32} {t_whole : Int32} {t_begins : Nat → Int32} {t_ends : Nat → Int32} {r_sorts : Nat → Int32} {r_numbers : Nat → Int32} {r_length : Int32} {wo : va_W} {res : Int32 × Nat × (Nat → Int32) × Int32 × Int32} (hf : f_X9_use_1 l2 f_places f_kinds v_keys v_found v_places n_w w_leasts w_howMany w_known = some res) : ME l yX9_use cX9_use 6 (some .int) rm_X9_use_1 G ((xb G h x_hasImage f_places f_kinds f_weights f_howManyGenerators f_generators f_racks f_howManySeen f_seenFirst f_seenSecond f_seenIs f_seenPlaces f_howManyEvents f_eventWhat f_eventNumber g_places g_kinds g_weights g_howManyGenerators g_generators g_racks g_howManySeen g_seenFirst g_seenSecond g_seenIs g_seenPlaces g_howManyEvents g_eventWhat g_eventNumber n_m0 n_m1 n_m2 n_s0 n_s1 n_s2 v_keys v_asFound v_found v_turns v_places p_keys p_asFound p_found p_turns p_places i_sort i_howOften i_sorts i_moves n_uq n_u u_leasts u_howMany u_known n_wq n_w w_leasts w_howMany w_known t_signs t_length t_whole t_begins t_ends r_sorts r_numbers r_length) ++ wo) [.ref (h 0), .int 1, .int l2] (fun q : Nat => ((xb G h x_hasImage f_places f_kinds f_weights f_howManyGenerators f_generators f_racks f_howManySeen f_seenFirst f_seenSecond f_seenIs f_seenPlaces f_howManyEvents f_eventWhat f_eventNumber g_places g_kinds g_weights g_howManyGenerators g_generators g_racks g_howManySeen g_seenFirst g_seenSecond g_seenIs g_seenPlaces g_howManyEvents g_eventWhat g_eventNumber n_m0 n_m1 n_m2 n_s0 n_s1 n_s2 v_keys v_asFound v_found v_turns v_places p_keys p_asFound p_found p_turns p_places i_sort i_howOften i_sorts i_moves n_uq n_u u_leasts u_howMany u_known q res.2.1 res.2.2.1 res.2.2.2.1 res.2.2.2.2 t_signs t_length t_whole t_begins t_ends r_sorts r_numbers r_length) ++ wo)) (some (.int res.1)) 1 4096 := by
  refine ME.of (plainFor_of_name (by decide)) (Nat.le_of_ble_eq_true rfl) ?_
  intro p e s m below meth c A X E hI ls hl
  obtain ⟨hx, hb, hml, hown, hts, hr, hlk⟩ := id X
  have hl : lv_has ls 6 [(0, .ref (h 0)), (1, .int 1), (2, .int l2)] := hl
  unfold f_X9_use_1 at hf
  refine lv_iload_n (pc := 0) hx hb dX9_use_0 rfl (lv_at hl 1 rfl) ?_
  obtain ⟨t1, e1, hf⟩ := q_ob hf
  refine x_cSn (pc := 1) (st1 := [.int t1]) X E hI (c_X9_isFlag l G e1) ks_X9_99 hd_X9_isFlag ⟨rfl, rfl⟩ (by decide) rfl hl.1 rfl (Nat.le_of_ble_eq_true rfl) dX9_use_1 ⟨Nat.le_of_ble_eq_true rfl, Nat.le_of_ble_eq_true rfl⟩ rfl (fun H locs hI => ?_)
  refine lv_if_ne (pc := 4) (tgt := 9) hx hb dX9_use_4 (by decide) (fun c2 => ?_) (fun c2 => ?_)
  · have hf := q_in c2 hf
    refine lv_iload_n (pc := 9) hx hb dX9_use_9 rfl (lv_at hl 2 rfl) ?_
    refine lv_if_lt (pc := 10) (tgt := 20) hx hb dX9_use_10 (by decide) (fun c3 => ?_) (fun c3 => ?_)
    · have hf := q_ip c3 hf
      refine lv_bipush (pc := 20) (v := (-2)) hx hb dX9_use_20 (by decide) ?_
      obtain rfl := Option.some.inj hf
      refine W.widen (k := 1) (n := 4096) (by decide) (by decide) ?_
      exact x_iretE n_wq X hI dX9_use_22
    · have hf := q_in c3 hf
      refine lv_iload_n (pc := 13) hx hb dX9_use_13 rfl (lv_at hl 2 rfl) ?_
      refine lv_sipush (pc := 14) (v := 9999) hx hb dX9_use_14 (by decide) ?_
      refine lv_icmp_le (pc := 17) (tgt := 23) hx hb dX9_use_17 (by decide) (fun c4 => ?_) (fun c4 => ?_)
      · have hf := q_ip c4 hf
        refine lv_aload_n (pc := 23) hx hb dX9_use_23 rfl (lv_at hl 0 rfl) ?_
        refine lv_iload_n (pc := 24) hx hb dX9_use_24 rfl (lv_at hl 1 rfl) ?_
        obtain ⟨t5, e5, hf⟩ := q_ob hf
        refine x_cVsE (pc := 25) (st1 := [.ref (h 25)]) X E hI (c_X9_classesBy_1 l G h e5) kv_X9_195 hd_X9_classesBy ⟨rfl, rfl⟩ (by decide) 0 rfl rfl rfl rfl hl.1 rfl (Nat.le_of_ble_eq_true rfl) dX9_use_25 ⟨Nat.le_of_ble_eq_true rfl, Nat.le_of_ble_eq_true rfl⟩ rfl (fun q5 H locs hI => ?_)
        have hI : IN A G ((xb G h x_hasImage f_places f_kinds f_weights f_howManyGenerators f_generators f_racks f_howManySeen f_seenFirst f_seenSecond f_seenIs f_seenPlaces f_howManyEvents f_eventWhat f_eventNumber g_places g_kinds g_weights g_howManyGenerators g_generators g_racks g_howManySeen g_seenFirst g_seenSecond g_seenIs g_seenPlaces g_howManyEvents g_eventWhat g_eventNumber n_m0 n_m1 n_m2 n_s0 n_s1 n_s2 v_keys v_asFound v_found v_turns v_places p_keys p_asFound p_found p_turns p_places i_sort i_howOften i_sorts i_moves n_uq n_u u_leasts u_howMany u_known q5 t5.1 t5.2.1 t5.2.2.1 t5.2.2.2 t_signs t_length t_whole t_begins t_ends r_sorts r_numbers r_length) ++ wo) s H locs := hI
        refine lv_astore_n (pc := 28) (lv' := [(3, .ref (h 25)), (0, .ref (h 0)), (1, .int 1), (2, .int l2)]) hx hb dX9_use_28 rfl hl (by decide) rfl (fun ls hl => ?_)
        refine lv_iconst (pc := 29) (v := 0) hx hb dX9_use_29 (by decide) ?_
        refine lv_istore (pc := 30) (lv' := [(4, .int 0), (3, .ref (h 25)), (0, .ref (h 0)), (1, .int 1), (2, .int l2)]) hx hb dX9_use_30 hl (by decide) rfl (fun ls hl => ?_)
        refine lv_iconst (pc := 32) (v := 0) hx hb dX9_use_32 (by decide) ?_
        refine lv_istore (pc := 33) (lv' := [(5, .int 0), (4, .int 0), (3, .ref (h 25)), (0, .ref (h 0)), (1, .int 1), (2, .int l2)]) hx hb dX9_use_33 hl (by decide) rfl (fun ls hl => ?_)
        refine k_X9_use_1_L35 X E (fun l4_6 l5_6 H locs ls hI hl hf => ?_) hI (lv_sub hl [3, 5, 2, 1, 0] rfl) hf
        refine lv_iload (pc := 74) hx hb dX9_use_74 (lv_at hl 3 rfl) ?_
        obtain rfl := Option.some.inj hf
        exact x_iretE q5 X hI dX9_use_76
      · have hf := q_in c4 hf
        refine lv_bipush (pc := 20) (v := (-2)) hx hb dX9_use_20 (by decide) ?_
        obtain rfl := Option.some.inj hf
        refine W.widen (k := 1) (n := 4096) (by decide) (by decide) ?_
        exact x_iretE n_wq X hI dX9_use_22
  · have hf := q_ip c2 hf
    refine lv_iconst (pc := 7) (v := (-1)) hx hb dX9_use_7 (by decide) ?_
    obtain rfl := Option.some.inj hf
    refine W.widen (k := 1) (n := 4096) (by decide) (by decide) ?_
    exact x_iretE n_wq X hI dX9_use_8

abbrev rm_X9_use_n : Room := { frames := 1, cells := 0, slots := 0, locals := 20 }
set_option maxHeartbeats 4000000 in
set_option maxRecDepth 100000 in
theorem c_X9_use_n (l : Launch) (G : GX) (h : Nat → Nat) {l1 : Int32} {l2 : Int32} {x_hasImage : Int32} {f_places : Int32} {f_kinds : Int32} {f_weights : Nat → Int32} {f_howManyGenerators : Int32} {f_generators : Nat → Int32} {f_racks : Nat → Int32} {f_howManySeen : Int32} {f_seenFirst : Nat → Int32} {f_seenSecond : Nat → Int32} {f_seenIs : Nat → Int32} {f_seenPlaces : Nat → Int32} {f_howManyEvents : Int32} {f_eventWhat : Nat → Int32} {f_eventNumber : Nat → Int32} {g_places : Int32} {g_kinds : Int32} {g_weights : Nat → Int32} {g_howManyGenerators : Int32} {g_generators : Nat → Int32} {g_racks : Nat → Int32} {g_howManySeen : Int32} {g_seenFirst : Nat → Int32} {g_seenSecond : Nat → Int32} {g_seenIs : Nat → Int32} {g_seenPlaces : Nat → Int32} {g_howManyEvents : Int32} {g_eventWhat : Nat → Int32} {g_eventNumber : Nat → Int32} {n_m0 : Nat} {n_m1 : Nat} {n_m2 : Nat} {n_s0 : Nat} {n_s1 : Nat} {n_s2 : Nat} {v_keys : Nat → Int32} {v_asFound : Nat → Int32} {v_found : Int32} {v_turns : Int32} {v_places : Int32} {p_keys : Nat → Int32} {p_asFound : Nat → Int32} {p_found : Int32} {p_turns : Int32} {p_places : Int32} {i_sort : Nat → Int32} {i_howOften : Nat → Int32} {i_sorts : Int32} {i_moves : Int32} {n_uq : Nat} {n_u : Nat} {u_leasts : Nat → Int32} {u_howMany : Int32} {u_known : Int32} {n_wq : Nat} {n_w : Nat} {w_leasts : Nat → Int32} {w_howMany : Int32} {w_known : Int32} {t_signs : Nat → Int32} {t_length : Int32} {t_whole : Int32} {t_begins : Nat → Int32} {t_ends : Nat → Int32} {r_sorts : Nat → Int32} {r_numbers : Nat → Int32} {r_length : Int32} {wo : va_W} {res : Int32} (hf : f_X9_use_n l1 l2 = some res) : MX l yX9_use cX9_use 6 (some .int) rm_X9_use_n G ((xb G h x_hasImage f_places f_kinds f_weights f_howManyGenerators f_generators f_racks f_howManySeen f_seenFirst f_seenSecond f_seenIs f_seenPlaces f_howManyEvents f_eventWhat f_eventNumber g_places g_kinds g_weights g_howManyGenerators g_generators g_racks g_howManySeen g_seenFirst g_seenSecond g_seenIs g_seenPlaces g_howManyEvents g_eventWhat g_eventNumber n_m0 n_m1 n_m2 n_s0 n_s1 n_s2 v_keys v_asFound v_found v_turns v_places p_keys p_asFound p_found p_turns p_places i_sort i_howOften i_sorts i_moves n_uq n_u u_leasts u_howMany u_known n_wq n_w w_leasts w_howMany w_known t_signs t_length t_whole t_begins t_ends r_sorts r_numbers r_length) ++ wo) [.ref (h 0), .int l1, .int l2] ((xb G h x_hasImage f_places f_kinds f_weights f_howManyGenerators f_generators f_racks f_howManySeen f_seenFirst f_seenSecond f_seenIs f_seenPlaces f_howManyEvents f_eventWhat f_eventNumber g_places g_kinds g_weights g_howManyGenerators g_generators g_racks g_howManySeen g_seenFirst g_seenSecond g_seenIs g_seenPlaces g_howManyEvents g_eventWhat g_eventNumber n_m0 n_m1 n_m2 n_s0 n_s1 n_s2 v_keys v_asFound v_found v_turns v_places p_keys p_asFound p_found p_turns p_places i_sort i_howOften i_sorts i_moves n_uq n_u u_leasts u_howMany u_known n_wq n_w w_leasts w_howMany w_known t_signs t_length t_whole t_begins t_ends r_sorts r_numbers r_length) ++ wo) (some (.int res)) 0 0 := by
  refine MX.of (plainFor_of_name (by decide)) (Nat.le_of_ble_eq_true rfl) ?_
  intro p e s m below meth c A X E hI ls hl
  obtain ⟨hx, hb, hml, hown, hts, hr, hlk⟩ := id X
  have hl : lv_has ls 6 [(0, .ref (h 0)), (1, .int l1), (2, .int l2)] := hl
  unfold f_X9_use_n at hf
  refine lv_iload_n (pc := 0) hx hb dX9_use_0 rfl (lv_at hl 1 rfl) ?_
  obtain ⟨t1, e1, hf⟩ := q_ob hf
  refine x_cSn (pc := 1) (st1 := [.int t1]) X E hI (c_X9_isFlag l G e1) ks_X9_99 hd_X9_isFlag ⟨rfl, rfl⟩ (by decide) rfl hl.1 rfl (Nat.le_of_ble_eq_true rfl) dX9_use_1 ⟨Nat.le_of_ble_eq_true rfl, Nat.le_of_ble_eq_true rfl⟩ rfl (fun H locs hI => ?_)
  refine lv_if_ne (pc := 4) (tgt := 9) hx hb dX9_use_4 (by decide) (fun c2 => ?_) (fun c2 => ?_)
  · have hf := q_in c2 hf
    refine lv_iload_n (pc := 9) hx hb dX9_use_9 rfl (lv_at hl 2 rfl) ?_
    refine lv_if_lt (pc := 10) (tgt := 20) hx hb dX9_use_10 (by decide) (fun c3 => ?_) (fun c3 => ?_)
    · have hf := q_ip c3 hf
      refine lv_bipush (pc := 20) (v := (-2)) hx hb dX9_use_20 (by decide) ?_
      obtain rfl := Option.some.inj hf
      exact x_iret X hI dX9_use_22
    · have hf := q_in c3 hf
      refine lv_iload_n (pc := 13) hx hb dX9_use_13 rfl (lv_at hl 2 rfl) ?_
      refine lv_sipush (pc := 14) (v := 9999) hx hb dX9_use_14 (by decide) ?_
      refine lv_icmp_le (pc := 17) (tgt := 23) hx hb dX9_use_17 (by decide) (fun c4 => ?_) (fun c4 => ?_)
      · have hf := q_ip c4 hf
        refine lv_aload_n (pc := 23) hx hb dX9_use_23 rfl (lv_at hl 0 rfl) ?_
        refine lv_iload_n (pc := 24) hx hb dX9_use_24 rfl (lv_at hl 1 rfl) ?_
        exact nomatch hf
      · have hf := q_in c4 hf
        refine lv_bipush (pc := 20) (v := (-2)) hx hb dX9_use_20 (by decide) ?_
        obtain rfl := Option.some.inj hf
        exact x_iret X hI dX9_use_22
  · have hf := q_ip c2 hf
    refine lv_iconst (pc := 7) (v := (-1)) hx hb dX9_use_7 (by decide) ?_
    obtain rfl := Option.some.inj hf
    exact x_iret X hI dX9_use_8

abbrev rm_X9_same : Room := { frames := 3, cells := 0, slots := 0, locals := 69 }
set_option maxHeartbeats 4000000 in
set_option maxRecDepth 100000 in
theorem c_X9_same (l : Launch) (G : GX) (h : Nat → Nat) {l1 : Int32} {l2 : Int32} {l3 : Int32} {f_places : Int32} {f_kinds : Int32} {v_keys : Nat → Int32} {v_found : Int32} {v_places : Int32} {x_hasImage : Int32} {f_weights : Nat → Int32} {f_howManyGenerators : Int32} {f_generators : Nat → Int32} {f_racks : Nat → Int32} {f_howManySeen : Int32} {f_seenFirst : Nat → Int32} {f_seenSecond : Nat → Int32} {f_seenIs : Nat → Int32} {f_seenPlaces : Nat → Int32} {f_howManyEvents : Int32} {f_eventWhat : Nat → Int32} {f_eventNumber : Nat → Int32} {g_places : Int32} {g_kinds : Int32} {g_weights : Nat → Int32} {g_howManyGenerators : Int32} {g_generators : Nat → Int32} {g_racks : Nat → Int32} {g_howManySeen : Int32} {g_seenFirst : Nat → Int32} {g_seenSecond : Nat → Int32} {g_seenIs : Nat → Int32} {g_seenPlaces : Nat → Int32} {g_howManyEvents : Int32} {g_eventWhat : Nat → Int32} {g_eventNumber : Nat → Int32} {n_m0 : Nat} {n_m1 : Nat} {n_m2 : Nat} {n_s0 : Nat} {n_s1 : Nat} {n_s2 : Nat} {v_asFound : Nat → Int32} {v_turns : Int32} {p_keys : Nat → Int32} {p_asFound : Nat → Int32} {p_found : Int32} {p_turns : Int32} {p_places : Int32} {i_sort : Nat → Int32} {i_howOften : Nat → Int32} {i_sorts : Int32} {i_moves : Int32} {n_uq : Nat} {n_u : Nat} {u_leasts : Nat → Int32} {u_howMany : Int32} {u_known : Int32} {n_wq : Nat} {n_w : Nat} {w_leasts : Nat → Int32} {w_howMany : Int32} {w_known : Int32} {t_signs : Nat → Int32} {t_length : Int32} {t_whole : Int32} {t_begins : Nat → Int32} {t_ends : Nat → Int32} {r_sorts : Nat → Int32} {r_numbers : Nat → Int32} {r_length : Int32} {wo : va_W} {res : Int32} (hf : f_X9_same l1 l2 l3 f_places f_kinds v_keys v_found v_places = some res) : MX l yX9_same cX9_same 6 (some .int) rm_X9_same G ((xb G h x_hasImage f_places f_kinds f_weights f_howManyGenerators f_generators f_racks f_howManySeen f_seenFirst f_seenSecond f_seenIs f_seenPlaces f_howManyEvents f_eventWhat f_eventNumber g_places g_kinds g_weights g_howManyGenerators g_generators g_racks g_howManySeen g_seenFirst g_seenSecond g_seenIs g_seenPlaces g_howManyEvents g_eventWhat g_eventNumber n_m0 n_m1 n_m2 n_s0 n_s1 n_s2 v_keys v_asFound v_found v_turns v_places p_keys p_asFound p_found p_turns p_places i_sort i_howOften i_sorts i_moves n_uq n_u u_leasts u_howMany u_known n_wq n_w w_leasts w_howMany w_known t_signs t_length t_whole t_begins t_ends r_sorts r_numbers r_length) ++ wo) [.ref (h 0), .int l1, .int l2, .int l3] ((xb G h x_hasImage f_places f_kinds f_weights f_howManyGenerators f_generators f_racks f_howManySeen f_seenFirst f_seenSecond f_seenIs f_seenPlaces f_howManyEvents f_eventWhat f_eventNumber g_places g_kinds g_weights g_howManyGenerators g_generators g_racks g_howManySeen g_seenFirst g_seenSecond g_seenIs g_seenPlaces g_howManyEvents g_eventWhat g_eventNumber n_m0 n_m1 n_m2 n_s0 n_s1 n_s2 v_keys v_asFound v_found v_turns v_places p_keys p_asFound p_found p_turns p_places i_sort i_howOften i_sorts i_moves n_uq n_u u_leasts u_howMany u_known n_wq n_w w_leasts w_howMany w_known t_signs t_length t_whole t_begins t_ends r_sorts r_numbers r_length) ++ wo) (some (.int res)) 0 0 := by
  refine MX.of (plainFor_of_name (by decide)) (Nat.le_of_ble_eq_true rfl) ?_
  intro p e s m below meth c A X E hI ls hl
  obtain ⟨hx, hb, hml, hown, hts, hr, hlk⟩ := id X
  have hl : lv_has ls 6 [(0, .ref (h 0)), (1, .int l1), (2, .int l2), (3, .int l3)] := hl
  unfold f_X9_same at hf
  refine lv_iload_n (pc := 0) hx hb dX9_same_0 rfl (lv_at hl 1 rfl) ?_
  obtain ⟨t1, e1, hf⟩ := q_ob hf
  refine x_cSn (pc := 1) (st1 := [.int t1]) X E hI (c_X9_isFlag l G e1) ks_X9_99 hd_X9_isFlag ⟨rfl, rfl⟩ (by decide) rfl hl.1 rfl (Nat.le_of_ble_eq_true rfl) dX9_same_1 ⟨Nat.le_of_ble_eq_true rfl, Nat.le_of_ble_eq_true rfl⟩ rfl (fun H locs hI => ?_)
  refine lv_if_ne (pc := 4) (tgt := 9) hx hb dX9_same_4 (by decide) (fun c2 => ?_) (fun c2 => ?_)
  · have hf := q_in c2 hf
    refine lv_aload_n (pc := 9) hx hb dX9_same_9 rfl (lv_at hl 0 rfl) ?_
    refine lv_iload_n (pc := 10) hx hb dX9_same_10 rfl (lv_at hl 2 rfl) ?_
    obtain ⟨t3, e3, hf⟩ := q_ob hf
    refine x_cVs (pc := 11) (st1 := [.int t3]) (w1 := ((xb G h x_hasImage f_places f_kinds f_weights f_howManyGenerators f_generators f_racks f_howManySeen f_seenFirst f_seenSecond f_seenIs f_seenPlaces f_howManyEvents f_eventWhat f_eventNumber g_places g_kinds g_weights g_howManyGenerators g_generators g_racks g_howManySeen g_seenFirst g_seenSecond g_seenIs g_seenPlaces g_howManyEvents g_eventWhat g_eventNumber n_m0 n_m1 n_m2 n_s0 n_s1 n_s2 v_keys v_asFound v_found v_turns v_places p_keys p_asFound p_found p_turns p_places i_sort i_howOften i_sorts i_moves n_uq n_u u_leasts u_howMany u_known n_wq n_w w_leasts w_howMany w_known t_signs t_length t_whole t_begins t_ends r_sorts r_numbers r_length) ++ wo)) X E hI (c_X9_packedPainting l G h e3) kv_X9_182 hd_X9_packedPainting ⟨rfl, rfl⟩ (by decide) 0 rfl rfl rfl rfl hl.1 rfl (Nat.le_of_ble_eq_true rfl) dX9_same_11 ⟨Nat.le_of_ble_eq_true rfl, Nat.le_of_ble_eq_true rfl⟩ rfl (fun H locs hI => ?_)
    refine lv_istore (pc := 14) (lv' := [(4, .int t3), (0, .ref (h 0)), (1, .int l1), (2, .int l2), (3, .int l3)]) hx hb dX9_same_14 hl (by decide) rfl (fun ls hl => ?_)
    refine lv_aload_n (pc := 16) hx hb dX9_same_16 rfl (lv_at hl 1 rfl) ?_
    refine lv_iload_n (pc := 17) hx hb dX9_same_17 rfl (lv_at hl 4 rfl) ?_
    obtain ⟨t4, e4, hf⟩ := q_ob hf
    refine x_cVs (pc := 18) (st1 := [.int t4]) (w1 := ((xb G h x_hasImage f_places f_kinds f_weights f_howManyGenerators f_generators f_racks f_howManySeen f_seenFirst f_seenSecond f_seenIs f_seenPlaces f_howManyEvents f_eventWhat f_eventNumber g_places g_kinds g_weights g_howManyGenerators g_generators g_racks g_howManySeen g_seenFirst g_seenSecond g_seenIs g_seenPlaces g_howManyEvents g_eventWhat g_eventNumber n_m0 n_m1 n_m2 n_s0 n_s1 n_s2 v_keys v_asFound v_found v_turns v_places p_keys p_asFound p_found p_turns p_places i_sort i_howOften i_sorts i_moves n_uq n_u u_leasts u_howMany u_known n_wq n_w w_leasts w_howMany w_known t_signs t_length t_whole t_begins t_ends r_sorts r_numbers r_length) ++ wo)) X E hI (c_X9_packedPainting l G h e4) kv_X9_182 hd_X9_packedPainting ⟨rfl, rfl⟩ (by decide) 0 rfl rfl rfl rfl hl.1 rfl (Nat.le_of_ble_eq_true rfl) dX9_same_18 ⟨Nat.le_of_ble_eq_true rfl, Nat.le_of_ble_eq_true rfl⟩ rfl (fun H locs hI => ?_)
    refine lv_istore (pc := 21) (lv' := [(5, .int t4), (4, .int t3), (0, .ref (h 0)), (1, .int l1), (2, .int l2), (3, .int l3)]) hx hb dX9_same_21 hl (by decide) rfl (fun ls hl => ?_)
    refine lv_iload (pc := 23) hx hb dX9_same_23 (lv_at hl 1 rfl) ?_
    refine lv_if_lt (pc := 25) (tgt := 33) hx hb dX9_same_25 (by decide) (fun c5 => ?_) (fun c5 => ?_)
    · have hf := q_ip c5 hf
      refine lv_bipush (pc := 33) (v := (-2)) hx hb dX9_same_33 (by decide) ?_
      obtain rfl := Option.some.inj hf
      exact x_iret X hI dX9_same_35
    · have hf := q_in c5 hf
      refine lv_iload (pc := 28) hx hb dX9_same_28 (lv_at hl 0 rfl) ?_
      refine lv_if_ge (pc := 30) (tgt := 36) hx hb dX9_same_30 (by decide) (fun c6 => ?_) (fun c6 => ?_)
      · have hf := q_ip c6 hf
        refine lv_aload_n (pc := 36) hx hb dX9_same_36 rfl (lv_at hl 2 rfl) ?_
        refine x_get (pc := 37) X E hI inX9 0 rfl rfl 3 (by decide) tw_2_10 rfl dX9_same_37 ?_
        refine lv_iload (pc := 40) hx hb dX9_same_40 (lv_at hl 1 rfl) ?_
        refine lv_iload (pc := 42) hx hb dX9_same_42 (lv_at hl 0 rfl) ?_
        refine lv_iload_n (pc := 44) hx hb dX9_same_44 rfl (lv_at hl 3 rfl) ?_
        obtain ⟨t7, e7, hf⟩ := q_ob hf
        refine x_cVt (pc := 45) (st1 := [.int t7]) (w2 := (xb G h x_hasImage f_places f_kinds f_weights f_howManyGenerators f_generators f_racks f_howManySeen f_seenFirst f_seenSecond f_seenIs f_seenPlaces f_howManyEvents f_eventWhat f_eventNumber g_places g_kinds g_weights g_howManyGenerators g_generators g_racks g_howManySeen g_seenFirst g_seenSecond g_seenIs g_seenPlaces g_howManyEvents g_eventWhat g_eventNumber n_m0 n_m1 n_m2 n_s0 n_s1 n_s2 v_keys v_asFound v_found v_turns v_places p_keys p_asFound p_found p_turns p_places i_sort i_howOften i_sorts i_moves n_uq n_u u_leasts u_howMany u_known n_wq n_w w_leasts w_howMany w_known t_signs t_length t_whole t_begins t_ends r_sorts r_numbers r_length)) X E hI (c_X5_makes l G n_m0 n_m1 n_m2 e7) kv_X9_211 hd_X5_makes ⟨rfl, rfl⟩ (by decide) pt_xb_vw_0 pt_xb_vw_0q 0 rfl rfl rfl rfl hl.1 rfl (Nat.le_of_ble_eq_true rfl) dX9_same_45 ⟨Nat.le_of_ble_eq_true rfl, Nat.le_of_ble_eq_true rfl⟩ rfl (fun H locs hI => ?_)
        refine lv_if_eq (pc := 48) (tgt := 55) hx hb dX9_same_48 (by decide) (fun c8 => ?_) (fun c8 => ?_)
        · have hf := q_ip c8 hf
          refine lv_iconst (pc := 55) (v := 0) hx hb dX9_same_55 (by decide) ?_
          obtain rfl := Option.some.inj hf
          exact x_iret X hI dX9_same_56
        · have hf := q_in c8 hf
          refine lv_iconst (pc := 51) (v := 1) hx hb dX9_same_51 (by decide) ?_
          refine lv_goto (pc := 52) (tgt := 56) hx hb dX9_same_52 (by decide) ?_
          obtain rfl := Option.some.inj hf
          exact x_iret X hI dX9_same_56
      · have hf := q_in c6 hf
        refine lv_bipush (pc := 33) (v := (-2)) hx hb dX9_same_33 (by decide) ?_
        obtain rfl := Option.some.inj hf
        exact x_iret X hI dX9_same_35
  · have hf := q_ip c2 hf
    refine lv_iconst (pc := 7) (v := (-1)) hx hb dX9_same_7 (by decide) ?_
    obtain rfl := Option.some.inj hf
    exact x_iret X hI dX9_same_8

abbrev rm_X9_handed : Room := { frames := 3, cells := 0, slots := 0, locals := 72 }
set_option maxHeartbeats 4000000 in
set_option maxRecDepth 100000 in
theorem c_X9_handed (l : Launch) (G : GX) (h : Nat → Nat) {l1 : Int32} {l2 : Int32} {f_places : Int32} {f_kinds : Int32} {v_keys : Nat → Int32} {v_found : Int32} {v_turns : Int32} {v_places : Int32} {x_hasImage : Int32} {f_weights : Nat → Int32} {f_howManyGenerators : Int32} {f_generators : Nat → Int32} {f_racks : Nat → Int32} {f_howManySeen : Int32} {f_seenFirst : Nat → Int32} {f_seenSecond : Nat → Int32} {f_seenIs : Nat → Int32} {f_seenPlaces : Nat → Int32} {f_howManyEvents : Int32} {f_eventWhat : Nat → Int32} {f_eventNumber : Nat → Int32} {g_places : Int32} {g_kinds : Int32} {g_weights : Nat → Int32} {g_howManyGenerators : Int32} {g_generators : Nat → Int32} {g_racks : Nat → Int32} {g_howManySeen : Int32} {g_seenFirst : Nat → Int32} {g_seenSecond : Nat → Int32} {g_seenIs : Nat → Int32} {g_seenPlaces : Nat → Int32} {g_howManyEvents : Int32} {g_eventWhat : Nat → Int32} {g_eventNumber : Nat → Int32} {n_m0 : Nat} {n_m1 : Nat} {n_m2 : Nat} {n_s0 : Nat} {n_s1 : Nat} {n_s2 : Nat} {v_asFound : Nat → Int32} {p_keys : Nat → Int32} {p_asFound : Nat → Int32} {p_found : Int32} {p_turns : Int32} {p_places : Int32} {i_sort : Nat → Int32} {i_howOften : Nat → Int32} {i_sorts : Int32} {i_moves : Int32} {n_uq : Nat} {n_u : Nat} {u_leasts : Nat → Int32} {u_howMany : Int32} {u_known : Int32} {n_wq : Nat} {n_w : Nat} {w_leasts : Nat → Int32} {w_howMany : Int32} {w_known : Int32} {t_signs : Nat → Int32} {t_length : Int32} {t_whole : Int32} {t_begins : Nat → Int32} {t_ends : Nat → Int32} {r_sorts : Nat → Int32} {r_numbers : Nat → Int32} {r_length : Int32} {wo : va_W} {res : Int32} (hf : f_X9_handed l1 l2 f_places f_kinds v_keys v_found v_turns v_places = some res) : MX l yX9_handed cX9_handed 6 (some .int) rm_X9_handed G ((xb G h x_hasImage f_places f_kinds f_weights f_howManyGenerators f_generators f_racks f_howManySeen f_seenFirst f_seenSecond f_seenIs f_seenPlaces f_howManyEvents f_eventWhat f_eventNumber g_places g_kinds g_weights g_howManyGenerators g_generators g_racks g_howManySeen g_seenFirst g_seenSecond g_seenIs g_seenPlaces g_howManyEvents g_eventWhat g_eventNumber n_m0 n_m1 n_m2 n_s0 n_s1 n_s2 v_keys v_asFound v_found v_turns v_places p_keys p_asFound p_found p_turns p_places i_sort i_howOften i_sorts i_moves n_uq n_u u_leasts u_howMany u_known n_wq n_w w_leasts w_howMany w_known t_signs t_length t_whole t_begins t_ends r_sorts r_numbers r_length) ++ wo) [.ref (h 0), .int l1, .int l2] ((xb G h x_hasImage f_places f_kinds f_weights f_howManyGenerators f_generators f_racks f_howManySeen f_seenFirst f_seenSecond f_seenIs f_seenPlaces f_howManyEvents f_eventWhat f_eventNumber g_places g_kinds g_weights g_howManyGenerators g_generators g_racks g_howManySeen g_seenFirst g_seenSecond g_seenIs g_seenPlaces g_howManyEvents g_eventWhat g_eventNumber n_m0 n_m1 n_m2 n_s0 n_s1 n_s2 v_keys v_asFound v_found v_turns v_places p_keys p_asFound p_found p_turns p_places i_sort i_howOften i_sorts i_moves n_uq n_u u_leasts u_howMany u_known n_wq n_w w_leasts w_howMany w_known t_signs t_length t_whole t_begins t_ends r_sorts r_numbers r_length) ++ wo) (some (.int res)) 0 0 := by
  refine MX.of (plainFor_of_name (by decide)) (Nat.le_of_ble_eq_true rfl) ?_
  intro p e s m below meth c A X E hI ls hl
  obtain ⟨hx, hb, hml, hown, hts, hr, hlk⟩ := id X
  have hl : lv_has ls 6 [(0, .ref (h 0)), (1, .int l1), (2, .int l2)] := hl
  unfold f_X9_handed at hf
  refine lv_iload_n (pc := 0) hx hb dX9_handed_0 rfl (lv_at hl 2 rfl) ?_
  obtain ⟨t1, e1, hf⟩ := q_ob hf
  refine x_cSn (pc := 1) (st1 := [.int t1]) X E hI (c_X9_isFlag l G e1) ks_X9_99 hd_X9_isFlag ⟨rfl, rfl⟩ (by decide) rfl hl.1 rfl (Nat.le_of_ble_eq_true rfl) dX9_handed_1 ⟨Nat.le_of_ble_eq_true rfl, Nat.le_of_ble_eq_true rfl⟩ rfl (fun H locs hI => ?_)
  refine lv_if_ne (pc := 4) (tgt := 9) hx hb dX9_handed_4 (by decide) (fun c2 => ?_) (fun c2 => ?_)
  · have hf := q_in c2 hf
    refine lv_aload_n (pc := 9) hx hb dX9_handed_9 rfl (lv_at hl 0 rfl) ?_
    refine lv_iload_n (pc := 10) hx hb dX9_handed_10 rfl (lv_at hl 1 rfl) ?_
    obtain ⟨t3, e3, hf⟩ := q_ob hf
    refine x_cVs (pc := 11) (st1 := [.int t3]) (w1 := ((xb G h x_hasImage f_places f_kinds f_weights f_howManyGenerators f_generators f_racks f_howManySeen f_seenFirst f_seenSecond f_seenIs f_seenPlaces f_howManyEvents f_eventWhat f_eventNumber g_places g_kinds g_weights g_howManyGenerators g_generators g_racks g_howManySeen g_seenFirst g_seenSecond g_seenIs g_seenPlaces g_howManyEvents g_eventWhat g_eventNumber n_m0 n_m1 n_m2 n_s0 n_s1 n_s2 v_keys v_asFound v_found v_turns v_places p_keys p_asFound p_found p_turns p_places i_sort i_howOften i_sorts i_moves n_uq n_u u_leasts u_howMany u_known n_wq n_w w_leasts w_howMany w_known t_signs t_length t_whole t_begins t_ends r_sorts r_numbers r_length) ++ wo)) X E hI (c_X9_packedPainting l G h e3) kv_X9_182 hd_X9_packedPainting ⟨rfl, rfl⟩ (by decide) 0 rfl rfl rfl rfl hl.1 rfl (Nat.le_of_ble_eq_true rfl) dX9_handed_11 ⟨Nat.le_of_ble_eq_true rfl, Nat.le_of_ble_eq_true rfl⟩ rfl (fun H locs hI => ?_)
    refine lv_istore_n (pc := 14) (lv' := [(3, .int t3), (0, .ref (h 0)), (1, .int l1), (2, .int l2)]) hx hb dX9_handed_14 rfl hl (by decide) rfl (fun ls hl => ?_)
    refine lv_iload_n (pc := 15) hx hb dX9_handed_15 rfl (lv_at hl 0 rfl) ?_
    refine lv_if_ge (pc := 16) (tgt := 22) hx hb dX9_handed_16 (by decide) (fun c4 => ?_) (fun c4 => ?_)
    · have hf := q_ip c4 hf
      refine lv_aload_n (pc := 22) hx hb dX9_handed_22 rfl (lv_at hl 1 rfl) ?_
      refine x_get (pc := 23) X E hI inX9 0 rfl rfl 3 (by decide) tw_2_10 rfl dX9_handed_23 ?_
      refine x_get (pc := 26) X E hI inX5 21 rfl rfl 3 (by decide) tw_1_105 rfl dX9_handed_26 ?_
      refine lv_aload_n (pc := 29) hx hb dX9_handed_29 rfl (lv_at hl 1 rfl) ?_
      refine x_get (pc := 30) X E hI inX9 0 rfl rfl 3 (by decide) tw_2_10 rfl dX9_handed_30 ?_
      refine x_get (pc := 33) X E hI inX5 21 rfl rfl 2 (by decide) tw_1_103 rfl dX9_handed_33 ?_
      refine lv_icmp_ge (pc := 36) (tgt := 43) hx hb dX9_handed_36 (by decide) (fun c5 => ?_) (fun c5 => ?_)
      · have hf := q_ip c5 hf
        refine lv_iconst (pc := 43) (v := 0) hx hb dX9_handed_43 (by decide) ?_
        refine lv_istore (pc := 44) (lv' := [(4, .int 0), (3, .int t3), (0, .ref (h 0)), (1, .int l1), (2, .int l2)]) hx hb dX9_handed_44 hl (by decide) rfl (fun ls hl => ?_)
        refine lv_aload_n (pc := 46) hx hb dX9_handed_46 rfl (lv_at hl 2 rfl) ?_
        refine x_get (pc := 47) X E hI inX9 0 rfl rfl 3 (by decide) tw_2_10 rfl dX9_handed_47 ?_
        refine lv_iload_n (pc := 50) hx hb dX9_handed_50 rfl (lv_at hl 1 rfl) ?_
        refine lv_iconst (pc := 51) (v := 1) hx hb dX9_handed_51 (by decide) ?_
        refine lv_iconst (pc := 52) (v := 1) hx hb dX9_handed_52 (by decide) ?_
        obtain ⟨t6, e6, hf⟩ := q_ob hf
        refine x_cVt (pc := 53) (st1 := [.int t6]) (w2 := (xb G h x_hasImage f_places f_kinds f_weights f_howManyGenerators f_generators f_racks f_howManySeen f_seenFirst f_seenSecond f_seenIs f_seenPlaces f_howManyEvents f_eventWhat f_eventNumber g_places g_kinds g_weights g_howManyGenerators g_generators g_racks g_howManySeen g_seenFirst g_seenSecond g_seenIs g_seenPlaces g_howManyEvents g_eventWhat g_eventNumber n_m0 n_m1 n_m2 n_s0 n_s1 n_s2 v_keys v_asFound v_found v_turns v_places p_keys p_asFound p_found p_turns p_places i_sort i_howOften i_sorts i_moves n_uq n_u u_leasts u_howMany u_known n_wq n_w w_leasts w_howMany w_known t_signs t_length t_whole t_begins t_ends r_sorts r_numbers r_length)) X E hI (c_X5_leastMade l G n_m0 n_m1 n_m2 e6) kv_X9_185 hd_X5_leastMade ⟨rfl, rfl⟩ (by decide) pt_xb_vw_0 pt_xb_vw_0q 0 rfl rfl rfl rfl hl.1 rfl (Nat.le_of_ble_eq_true rfl) dX9_handed_53 ⟨Nat.le_of_ble_eq_true rfl, Nat.le_of_ble_eq_true rfl⟩ rfl (fun H locs hI => ?_)
        refine lv_istore (pc := 56) (lv' := [(5, .int t6), (4, .int 0), (3, .int t3), (0, .ref (h 0)), (1, .int l1), (2, .int l2)]) hx hb dX9_handed_56 hl (by decide) rfl (fun ls hl => ?_)
        refine lv_iload_n (pc := 58) hx hb dX9_handed_58 rfl (lv_at hl 5 rfl) ?_
        refine lv_iconst (pc := 59) (v := 1) hx hb dX9_handed_59 (by decide) ?_
        refine lv_icmp_ne (pc := 60) (tgt := 80) hx hb dX9_handed_60 (by decide) (fun c7 => ?_) (fun c7 => ?_)
        · have hf := q_in c7 hf
          refine lv_iload (pc := 80) hx hb dX9_handed_80 (lv_at hl 1 rfl) ?_
          refine lv_if_eq (pc := 82) (tgt := 104) hx hb dX9_handed_82 (by decide) (fun c8 => ?_) (fun c8 => ?_)
          · refine lv_iconst (pc := 104) (v := 0) hx hb dX9_handed_104 (by decide) ?_
            obtain rfl := Option.some.inj hf
            exact x_iret X hI dX9_handed_105
          · exact absurd c8 (by decide)
        · have hf := q_ip c7 hf
          refine lv_iload (pc := 63) hx hb dX9_handed_63 (lv_at hl 1 rfl) ?_
          refine lv_if_eq (pc := 65) (tgt := 77) hx hb dX9_handed_65 (by decide) (fun c9 => ?_) (fun c9 => ?_)
          · refine lv_bipush (pc := 77) (v := (-5)) hx hb dX9_handed_77 (by decide) ?_
            obtain rfl := Option.some.inj hf
            exact x_iret X hI dX9_handed_79
          · exact absurd c9 (by decide)
      · have hf := q_in c5 hf
        refine lv_iconst (pc := 39) (v := 1) hx hb dX9_handed_39 (by decide) ?_
        refine lv_goto (pc := 40) (tgt := 44) hx hb dX9_handed_40 (by decide) ?_
        refine lv_istore (pc := 44) (lv' := [(4, .int 1), (3, .int t3), (0, .ref (h 0)), (1, .int l1), (2, .int l2)]) hx hb dX9_handed_44 hl (by decide) rfl (fun ls hl => ?_)
        refine lv_aload_n (pc := 46) hx hb dX9_handed_46 rfl (lv_at hl 2 rfl) ?_
        refine x_get (pc := 47) X E hI inX9 0 rfl rfl 3 (by decide) tw_2_10 rfl dX9_handed_47 ?_
        refine lv_iload_n (pc := 50) hx hb dX9_handed_50 rfl (lv_at hl 1 rfl) ?_
        refine lv_iconst (pc := 51) (v := 1) hx hb dX9_handed_51 (by decide) ?_
        refine lv_iconst (pc := 52) (v := 1) hx hb dX9_handed_52 (by decide) ?_
        obtain ⟨t10, e10, hf⟩ := q_ob hf
        refine x_cVt (pc := 53) (st1 := [.int t10]) (w2 := (xb G h x_hasImage f_places f_kinds f_weights f_howManyGenerators f_generators f_racks f_howManySeen f_seenFirst f_seenSecond f_seenIs f_seenPlaces f_howManyEvents f_eventWhat f_eventNumber g_places g_kinds g_weights g_howManyGenerators g_generators g_racks g_howManySeen g_seenFirst g_seenSecond g_seenIs g_seenPlaces g_howManyEvents g_eventWhat g_eventNumber n_m0 n_m1 n_m2 n_s0 n_s1 n_s2 v_keys v_asFound v_found v_turns v_places p_keys p_asFound p_found p_turns p_places i_sort i_howOften i_sorts i_moves n_uq n_u u_leasts u_howMany u_known n_wq n_w w_leasts w_howMany w_known t_signs t_length t_whole t_begins t_ends r_sorts r_numbers r_length)) X E hI (c_X5_leastMade l G n_m0 n_m1 n_m2 e10) kv_X9_185 hd_X5_leastMade ⟨rfl, rfl⟩ (by decide) pt_xb_vw_0 pt_xb_vw_0q 0 rfl rfl rfl rfl hl.1 rfl (Nat.le_of_ble_eq_true rfl) dX9_handed_53 ⟨Nat.le_of_ble_eq_true rfl, Nat.le_of_ble_eq_true rfl⟩ rfl (fun H locs hI => ?_)
        refine lv_istore (pc := 56) (lv' := [(5, .int t10), (4, .int 1), (3, .int t3), (0, .ref (h 0)), (1, .int l1), (2, .int l2)]) hx hb dX9_handed_56 hl (by decide) rfl (fun ls hl => ?_)
        refine lv_iload_n (pc := 58) hx hb dX9_handed_58 rfl (lv_at hl 5 rfl) ?_
        refine lv_iconst (pc := 59) (v := 1) hx hb dX9_handed_59 (by decide) ?_
        refine lv_icmp_ne (pc := 60) (tgt := 80) hx hb dX9_handed_60 (by decide) (fun c11 => ?_) (fun c11 => ?_)
        · have hf := q_in c11 hf
          refine lv_iload (pc := 80) hx hb dX9_handed_80 (lv_at hl 1 rfl) ?_
          refine lv_if_eq (pc := 82) (tgt := 104) hx hb dX9_handed_82 (by decide) (fun c12 => ?_) (fun c12 => ?_)
          · exact absurd c12 (by decide)
          · refine lv_iload (pc := 85) hx hb dX9_handed_85 (lv_at hl 0 rfl) ?_
            refine lv_aload_n (pc := 87) hx hb dX9_handed_87 rfl (lv_at hl 3 rfl) ?_
            refine x_get (pc := 88) X E hI inX9 0 rfl rfl 3 (by decide) tw_2_10 rfl dX9_handed_88 ?_
            refine lv_iload_n (pc := 91) hx hb dX9_handed_91 rfl (lv_at hl 2 rfl) ?_
            refine lv_iconst (pc := 92) (v := 0) hx hb dX9_handed_92 (by decide) ?_
            refine lv_iconst (pc := 93) (v := 0) hx hb dX9_handed_93 (by decide) ?_
            obtain ⟨t13, e13, hf⟩ := q_ob hf
            refine x_cVt (pc := 94) (st1 := [.int t13, .int t10]) (w2 := (xb G h x_hasImage f_places f_kinds f_weights f_howManyGenerators f_generators f_racks f_howManySeen f_seenFirst f_seenSecond f_seenIs f_seenPlaces f_howManyEvents f_eventWhat f_eventNumber g_places g_kinds g_weights g_howManyGenerators g_generators g_racks g_howManySeen g_seenFirst g_seenSecond g_seenIs g_seenPlaces g_howManyEvents g_eventWhat g_eventNumber n_m0 n_m1 n_m2 n_s0 n_s1 n_s2 v_keys v_asFound v_found v_turns v_places p_keys p_asFound p_found p_turns p_places i_sort i_howOften i_sorts i_moves n_uq n_u u_leasts u_howMany u_known n_wq n_w w_leasts w_howMany w_known t_signs t_length t_whole t_begins t_ends r_sorts r_numbers r_length)) X E hI (c_X5_leastMade l G n_m0 n_m1 n_m2 e13) kv_X9_185 hd_X5_leastMade ⟨rfl, rfl⟩ (by decide) pt_xb_vw_0 pt_xb_vw_0q 0 rfl rfl rfl rfl hl.1 rfl (Nat.le_of_ble_eq_true rfl) dX9_handed_94 ⟨Nat.le_of_ble_eq_true rfl, Nat.le_of_ble_eq_true rfl⟩ rfl (fun H locs hI => ?_)
            refine lv_icmp_eq (pc := 97) (tgt := 104) hx hb dX9_handed_97 (by decide) (fun c14 => ?_) (fun c14 => ?_)
            · have hf := q_ip c14 hf
              refine lv_iconst (pc := 104) (v := 0) hx hb dX9_handed_104 (by decide) ?_
              obtain rfl := Option.some.inj hf
              exact x_iret X hI dX9_handed_105
            · have hf := q_in c14 hf
              refine lv_iconst (pc := 100) (v := 1) hx hb dX9_handed_100 (by decide) ?_
              refine lv_goto (pc := 101) (tgt := 105) hx hb dX9_handed_101 (by decide) ?_
              obtain rfl := Option.some.inj hf
              exact x_iret X hI dX9_handed_105
        · have hf := q_ip c11 hf
          refine lv_iload (pc := 63) hx hb dX9_handed_63 (lv_at hl 1 rfl) ?_
          refine lv_if_eq (pc := 65) (tgt := 77) hx hb dX9_handed_65 (by decide) (fun c15 => ?_) (fun c15 => ?_)
          · exact absurd c15 (by decide)
          · refine lv_aload_n (pc := 68) hx hb dX9_handed_68 rfl (lv_at hl 3 rfl) ?_
            refine lv_iload (pc := 69) hx hb dX9_handed_69 (lv_at hl 0 rfl) ?_
            obtain ⟨t16, e16, hf⟩ := q_ob hf
            refine x_cVs (pc := 71) (st1 := [.int t16]) (w1 := ((xb G h x_hasImage f_places f_kinds f_weights f_howManyGenerators f_generators f_racks f_howManySeen f_seenFirst f_seenSecond f_seenIs f_seenPlaces f_howManyEvents f_eventWhat f_eventNumber g_places g_kinds g_weights g_howManyGenerators g_generators g_racks g_howManySeen g_seenFirst g_seenSecond g_seenIs g_seenPlaces g_howManyEvents g_eventWhat g_eventNumber n_m0 n_m1 n_m2 n_s0 n_s1 n_s2 v_keys v_asFound v_found v_turns v_places p_keys p_asFound p_found p_turns p_places i_sort i_howOften i_sorts i_moves n_uq n_u u_leasts u_howMany u_known n_wq n_w w_leasts w_howMany w_known t_signs t_length t_whole t_begins t_ends r_sorts r_numbers r_length) ++ wo)) X E hI (c_X9_paintingNumber l G h e16) kv_X9_189 hd_X9_paintingNumber ⟨rfl, rfl⟩ (by decide) 0 rfl rfl rfl rfl hl.1 rfl (Nat.le_of_ble_eq_true rfl) dX9_handed_71 ⟨Nat.le_of_ble_eq_true rfl, Nat.le_of_ble_eq_true rfl⟩ rfl (fun H locs hI => ?_)
            refine lv_goto (pc := 74) (tgt := 79) hx hb dX9_handed_74 (by decide) ?_
            obtain rfl := Option.some.inj hf
            exact x_iret X hI dX9_handed_79
    · have hf := q_in c4 hf
      refine lv_bipush (pc := 19) (v := (-2)) hx hb dX9_handed_19 (by decide) ?_
      obtain rfl := Option.some.inj hf
      exact x_iret X hI dX9_handed_21
  · have hf := q_ip c2 hf
    refine lv_iconst (pc := 7) (v := (-1)) hx hb dX9_handed_7 (by decide) ?_
    obtain rfl := Option.some.inj hf
    exact x_iret X hI dX9_handed_8

abbrev rm_X9_even : Room := { frames := 4, cells := 0, slots := 0, locals := 106 }
set_option maxHeartbeats 4000000 in
set_option maxRecDepth 100000 in
theorem c_X9_even (l : Launch) (G : GX) (h : Nat → Nat) {l1 : Int32} {f_places : Int32} {f_kinds : Int32} {v_keys : Nat → Int32} {v_found : Int32} {v_turns : Int32} {v_places : Int32} {i_sort : Nat → Int32} {i_howOften : Nat → Int32} {i_sorts : Int32} {i_moves : Int32} {x_hasImage : Int32} {f_weights : Nat → Int32} {f_howManyGenerators : Int32} {f_generators : Nat → Int32} {f_racks : Nat → Int32} {f_howManySeen : Int32} {f_seenFirst : Nat → Int32} {f_seenSecond : Nat → Int32} {f_seenIs : Nat → Int32} {f_seenPlaces : Nat → Int32} {f_howManyEvents : Int32} {f_eventWhat : Nat → Int32} {f_eventNumber : Nat → Int32} {g_places : Int32} {g_kinds : Int32} {g_weights : Nat → Int32} {g_howManyGenerators : Int32} {g_generators : Nat → Int32} {g_racks : Nat → Int32} {g_howManySeen : Int32} {g_seenFirst : Nat → Int32} {g_seenSecond : Nat → Int32} {g_seenIs : Nat → Int32} {g_seenPlaces : Nat → Int32} {g_howManyEvents : Int32} {g_eventWhat : Nat → Int32} {g_eventNumber : Nat → Int32} {n_m0 : Nat} {n_m1 : Nat} {n_m2 : Nat} {n_s0 : Nat} {n_s1 : Nat} {n_s2 : Nat} {v_asFound : Nat → Int32} {p_keys : Nat → Int32} {p_asFound : Nat → Int32} {p_found : Int32} {p_turns : Int32} {p_places : Int32} {n_uq : Nat} {n_u : Nat} {u_leasts : Nat → Int32} {u_howMany : Int32} {u_known : Int32} {n_wq : Nat} {n_w : Nat} {w_leasts : Nat → Int32} {w_howMany : Int32} {w_known : Int32} {t_signs : Nat → Int32} {t_length : Int32} {t_whole : Int32} {t_begins : Nat → Int32} {t_ends : Nat → Int32} {r_sorts : Nat → Int32} {r_numbers : Nat → Int32} {r_length : Int32} {wo : va_W} {res : Int32 × (Nat → Int32) × (Nat → Int32) × Int32 × Int32} (hf : f_X9_even l1 f_places f_kinds v_keys v_found v_turns v_places i_sort i_howOften i_sorts i_moves = some res) : MX l yX9_even cX9_even 2 (some .int) rm_X9_even G ((xb G h x_hasImage f_places f_kinds f_weights f_howManyGenerators f_generators f_racks f_howManySeen f_seenFirst f_seenSecond f_seenIs f_seenPlaces f_howManyEvents f_eventWhat f_eventNumber g_places g_kinds g_weights g_howManyGenerators g_generators g_racks g_howManySeen g_seenFirst g_seenSecond g_seenIs g_seenPlaces g_howManyEvents g_eventWhat g_eventNumber n_m0 n_m1 n_m2 n_s0 n_s1 n_s2 v_keys v_asFound v_found v_turns v_places p_keys p_asFound p_found p_turns p_places i_sort i_howOften i_sorts i_moves n_uq n_u u_leasts u_howMany u_known n_wq n_w w_leasts w_howMany w_known t_signs t_length t_whole t_begins t_ends r_sorts r_numbers r_length) ++ wo) [.ref (h 0), .int l1] ((xb G h x_hasImage f_places f_kinds f_weights f_howManyGenerators f_generators f_racks f_howManySeen f_seenFirst f_seenSecond f_seenIs f_seenPlaces f_howManyEvents f_eventWhat f_eventNumber g_places g_kinds g_weights g_howManyGenerators g_generators g_racks g_howManySeen g_seenFirst g_seenSecond g_seenIs g_seenPlaces g_howManyEvents g_eventWhat g_eventNumber n_m0 n_m1 n_m2 n_s0 n_s1 n_s2 v_keys v_asFound v_found v_turns v_places p_keys p_asFound p_found p_turns p_places res.2.1 res.2.2.1 res.2.2.2.1 res.2.2.2.2 n_uq n_u u_leasts u_howMany u_known n_wq n_w w_leasts w_howMany w_known t_signs t_length t_whole t_begins t_ends r_sorts r_numbers r_length) ++ wo) (some (.int res.1)) 0 0 := by
  refine MX.of (plainFor_of_name (by decide)) (Nat.le_of_ble_eq_true rfl) ?_
  intro p e s m below meth c A X E hI ls hl
  obtain ⟨hx, hb, hml, hown, hts, hr, hlk⟩ := id X
  have hl : lv_has ls 2 [(0, .ref (h 0)), (1, .int l1)] := hl
  unfold f_X9_even at hf
  refine lv_iload_n (pc := 0) hx hb dX9_even_0 rfl (lv_at hl 1 rfl) ?_
  obtain ⟨t1, e1, hf⟩ := q_ob hf
  refine x_cSn (pc := 1) (st1 := [.int t1]) X E hI (c_X9_isFlag l G e1) ks_X9_99 hd_X9_isFlag ⟨rfl, rfl⟩ (by decide) rfl hl.1 rfl (Nat.le_of_ble_eq_true rfl) dX9_even_1 ⟨Nat.le_of_ble_eq_true rfl, Nat.le_of_ble_eq_true rfl⟩ rfl (fun H locs hI => ?_)
  refine lv_if_ne (pc := 4) (tgt := 9) hx hb dX9_even_4 (by decide) (fun c2 => ?_) (fun c2 => ?_)
  · have hf := q_in c2 hf
    refine lv_aload_n (pc := 9) hx hb dX9_even_9 rfl (lv_at hl 0 rfl) ?_
    refine lv_iload_n (pc := 10) hx hb dX9_even_10 rfl (lv_at hl 1 rfl) ?_
    obtain ⟨t3, e3, hf⟩ := q_ob hf
    refine x_cVs (pc := 11) (st1 := [.int t3.1]) (w1 := ((xb G h x_hasImage f_places f_kinds f_weights f_howManyGenerators f_generators f_racks f_howManySeen f_seenFirst f_seenSecond f_seenIs f_seenPlaces f_howManyEvents f_eventWhat f_eventNumber g_places g_kinds g_weights g_howManyGenerators g_generators g_racks g_howManySeen g_seenFirst g_seenSecond g_seenIs g_seenPlaces g_howManyEvents g_eventWhat g_eventNumber n_m0 n_m1 n_m2 n_s0 n_s1 n_s2 v_keys v_asFound v_found v_turns v_places p_keys p_asFound p_found p_turns p_places t3.2.1 t3.2.2.1 t3.2.2.2.1 t3.2.2.2.2 n_uq n_u u_leasts u_howMany u_known n_wq n_w w_leasts w_howMany w_known t_signs t_length t_whole t_begins t_ends r_sorts r_numbers r_length) ++ wo)) X E hI (c_X9_howManyClasses l G h e3) kv_X9_155 hd_X9_howManyClasses ⟨rfl, rfl⟩ (by decide) 0 rfl rfl rfl rfl hl.1 rfl (Nat.le_of_ble_eq_true rfl) dX9_even_11 ⟨Nat.le_of_ble_eq_true rfl, Nat.le_of_ble_eq_true rfl⟩ rfl (fun H locs hI => ?_)
    refine lv_i2f (pc := 14) hx hb dX9_even_14 ?_
    refine lv_aload_n (pc := 15) hx hb dX9_even_15 rfl (lv_at hl 0 rfl) ?_
    obtain ⟨t4, e4, hf⟩ := q_ob hf
    refine x_cVs (pc := 16) (st1 := [.int t4, .float (FP.i2f t3.1)]) (w1 := ((xb G h x_hasImage f_places f_kinds f_weights f_howManyGenerators f_generators f_racks f_howManySeen f_seenFirst f_seenSecond f_seenIs f_seenPlaces f_howManyEvents f_eventWhat f_eventNumber g_places g_kinds g_weights g_howManyGenerators g_generators g_racks g_howManySeen g_seenFirst g_seenSecond g_seenIs g_seenPlaces g_howManyEvents g_eventWhat g_eventNumber n_m0 n_m1 n_m2 n_s0 n_s1 n_s2 v_keys v_asFound v_found v_turns v_places p_keys p_asFound p_found p_turns p_places t3.2.1 t3.2.2.1 t3.2.2.2.1 t3.2.2.2.2 n_uq n_u u_leasts u_howMany u_known n_wq n_w w_leasts w_howMany w_known t_signs t_length t_whole t_begins t_ends r_sorts r_numbers r_length) ++ wo)) X E hI (c_X9_paintings l G h e4) kv_X9_151 hd_X9_paintings ⟨rfl, rfl⟩ (by decide) 0 rfl rfl rfl rfl hl.1 rfl (Nat.le_of_ble_eq_true rfl) dX9_even_16 ⟨Nat.le_of_ble_eq_true rfl, Nat.le_of_ble_eq_true rfl⟩ rfl (fun H locs hI => ?_)
    refine lv_i2f (pc := 19) hx hb dX9_even_19 ?_
    obtain ⟨t5, e5, hf⟩ := q_ob hf
    refine x_fdiv (pc := 20) X e5 dX9_even_20 ?_
    obtain ⟨t6, e6, hf⟩ := q_ob hf
    refine x_cSn (pc := 21) (st1 := [.int t6]) X E hI (c_X0_ofFloat l G e6) ks_X9_215 hd_X0_ofFloat ⟨rfl, rfl⟩ (by decide) rfl hl.1 rfl (Nat.le_of_ble_eq_true rfl) dX9_even_21 ⟨Nat.le_of_ble_eq_true rfl, Nat.le_of_ble_eq_true rfl⟩ rfl (fun H locs hI => ?_)
    obtain rfl := Option.some.inj hf
    exact x_iret X hI dX9_even_24
  · have hf := q_ip c2 hf
    refine lv_iconst (pc := 7) (v := (-1)) hx hb dX9_even_7 (by decide) ?_
    obtain rfl := Option.some.inj hf
    exact x_iret X hI dX9_even_8

abbrev rm_X9_likely : Room := { frames := 3, cells := 0, slots := 0, locals := 69 }
set_option maxHeartbeats 4000000 in
set_option maxRecDepth 100000 in
theorem c_X9_likely (l : Launch) (G : GX) (h : Nat → Nat) {l1 : Int32} {l2 : Int32} {f_places : Int32} {f_kinds : Int32} {v_keys : Nat → Int32} {v_found : Int32} {v_turns : Int32} {v_places : Int32} {x_hasImage : Int32} {f_weights : Nat → Int32} {f_howManyGenerators : Int32} {f_generators : Nat → Int32} {f_racks : Nat → Int32} {f_howManySeen : Int32} {f_seenFirst : Nat → Int32} {f_seenSecond : Nat → Int32} {f_seenIs : Nat → Int32} {f_seenPlaces : Nat → Int32} {f_howManyEvents : Int32} {f_eventWhat : Nat → Int32} {f_eventNumber : Nat → Int32} {g_places : Int32} {g_kinds : Int32} {g_weights : Nat → Int32} {g_howManyGenerators : Int32} {g_generators : Nat → Int32} {g_racks : Nat → Int32} {g_howManySeen : Int32} {g_seenFirst : Nat → Int32} {g_seenSecond : Nat → Int32} {g_seenIs : Nat → Int32} {g_seenPlaces : Nat → Int32} {g_howManyEvents : Int32} {g_eventWhat : Nat → Int32} {g_eventNumber : Nat → Int32} {n_m0 : Nat} {n_m1 : Nat} {n_m2 : Nat} {n_s0 : Nat} {n_s1 : Nat} {n_s2 : Nat} {v_asFound : Nat → Int32} {p_keys : Nat → Int32} {p_asFound : Nat → Int32} {p_found : Int32} {p_turns : Int32} {p_places : Int32} {i_sort : Nat → Int32} {i_howOften : Nat → Int32} {i_sorts : Int32} {i_moves : Int32} {n_uq : Nat} {n_u : Nat} {u_leasts : Nat → Int32} {u_howMany : Int32} {u_known : Int32} {n_wq : Nat} {n_w : Nat} {w_leasts : Nat → Int32} {w_howMany : Int32} {w_known : Int32} {t_signs : Nat → Int32} {t_length : Int32} {t_whole : Int32} {t_begins : Nat → Int32} {t_ends : Nat → Int32} {r_sorts : Nat → Int32} {r_numbers : Nat → Int32} {r_length : Int32} {wo : va_W} {res : Int64} (hf : f_X9_likely l1 l2 f_places f_kinds v_keys v_found v_turns v_places = some res) : MX l yX9_likely cX9_likely 4 (some .long) rm_X9_likely G ((xb G h x_hasImage f_places f_kinds f_weights f_howManyGenerators f_generators f_racks f_howManySeen f_seenFirst f_seenSecond f_seenIs f_seenPlaces f_howManyEvents f_eventWhat f_eventNumber g_places g_kinds g_weights g_howManyGenerators g_generators g_racks g_howManySeen g_seenFirst g_seenSecond g_seenIs g_seenPlaces g_howManyEvents g_eventWhat g_eventNumber n_m0 n_m1 n_m2 n_s0 n_s1 n_s2 v_keys v_asFound v_found v_turns v_places p_keys p_asFound p_found p_turns p_places i_sort i_howOften i_sorts i_moves n_uq n_u u_leasts u_howMany u_known n_wq n_w w_leasts w_howMany w_known t_signs t_length t_whole t_begins t_ends r_sorts r_numbers r_length) ++ wo) [.ref (h 0), .int l1, .int l2] ((xb G h x_hasImage f_places f_kinds f_weights f_howManyGenerators f_generators f_racks f_howManySeen f_seenFirst f_seenSecond f_seenIs f_seenPlaces f_howManyEvents f_eventWhat f_eventNumber g_places g_kinds g_weights g_howManyGenerators g_generators g_racks g_howManySeen g_seenFirst g_seenSecond g_seenIs g_seenPlaces g_howManyEvents g_eventWhat g_eventNumber n_m0 n_m1 n_m2 n_s0 n_s1 n_s2 v_keys v_asFound v_found v_turns v_places p_keys p_asFound p_found p_turns p_places i_sort i_howOften i_sorts i_moves n_uq n_u u_leasts u_howMany u_known n_wq n_w w_leasts w_howMany w_known t_signs t_length t_whole t_begins t_ends r_sorts r_numbers r_length) ++ wo) (some (.long res)) 0 0 := by
  refine MX.of (plainFor_of_name (by decide)) (Nat.le_of_ble_eq_true rfl) ?_
  intro p e s m below meth c A X E hI ls hl
  obtain ⟨hx, hb, hml, hown, hts, hr, hlk⟩ := id X
  have hl : lv_has ls 4 [(0, .ref (h 0)), (1, .int l1), (2, .int l2)] := hl
  unfold f_X9_likely at hf
  refine lv_aload_n (pc := 0) hx hb dX9_likely_0 rfl (lv_at hl 0 rfl) ?_
  refine lv_iload_n (pc := 1) hx hb dX9_likely_1 rfl (lv_at hl 2 rfl) ?_
  obtain ⟨t1, e1, hf⟩ := q_ob hf
  refine x_cVs (pc := 2) (st1 := [.int t1]) (w1 := ((xb G h x_hasImage f_places f_kinds f_weights f_howManyGenerators f_generators f_racks f_howManySeen f_seenFirst f_seenSecond f_seenIs f_seenPlaces f_howManyEvents f_eventWhat f_eventNumber g_places g_kinds g_weights g_howManyGenerators g_generators g_racks g_howManySeen g_seenFirst g_seenSecond g_seenIs g_seenPlaces g_howManyEvents g_eventWhat g_eventNumber n_m0 n_m1 n_m2 n_s0 n_s1 n_s2 v_keys v_asFound v_found v_turns v_places p_keys p_asFound p_found p_turns p_places i_sort i_howOften i_sorts i_moves n_uq n_u u_leasts u_howMany u_known n_wq n_w w_leasts w_howMany w_known t_signs t_length t_whole t_begins t_ends r_sorts r_numbers r_length) ++ wo)) X E hI (c_X9_packedPainting l G h e1) kv_X9_182 hd_X9_packedPainting ⟨rfl, rfl⟩ (by decide) 0 rfl rfl rfl rfl hl.1 rfl (Nat.le_of_ble_eq_true rfl) dX9_likely_2 ⟨Nat.le_of_ble_eq_true rfl, Nat.le_of_ble_eq_true rfl⟩ rfl (fun H locs hI => ?_)
  refine lv_istore_n (pc := 5) (lv' := [(3, .int t1), (0, .ref (h 0)), (1, .int l1), (2, .int l2)]) hx hb dX9_likely_5 rfl hl (by decide) rfl (fun ls hl => ?_)
  refine lv_iload_n (pc := 6) hx hb dX9_likely_6 rfl (lv_at hl 2 rfl) ?_
  obtain ⟨t2, e2, hf⟩ := q_ob hf
  refine x_cSn (pc := 7) (st1 := [.int t2]) X E hI (c_X9_isFlag l G e2) ks_X9_99 hd_X9_isFlag ⟨rfl, rfl⟩ (by decide) rfl hl.1 rfl (Nat.le_of_ble_eq_true rfl) dX9_likely_7 ⟨Nat.le_of_ble_eq_true rfl, Nat.le_of_ble_eq_true rfl⟩ rfl (fun H locs hI => ?_)
  refine lv_if_eq (pc := 10) (tgt := 17) hx hb dX9_likely_10 (by decide) (fun c3 => ?_) (fun c3 => ?_)
  · have hf := q_ip c3 hf
    refine lv_ldc2 (pc := 17) (v := (-9223372036854775808)) hx hb hown (hts _ tw_2_191) dX9_likely_17 ?_
    obtain rfl := Option.some.inj hf
    exact x_lret X hI dX9_likely_20
  · have hf := q_in c3 hf
    refine lv_iload_n (pc := 13) hx hb dX9_likely_13 rfl (lv_at hl 0 rfl) ?_
    refine lv_if_ge (pc := 14) (tgt := 21) hx hb dX9_likely_14 (by decide) (fun c4 => ?_) (fun c4 => ?_)
    · have hf := q_ip c4 hf
      refine lv_aload_n (pc := 21) hx hb dX9_likely_21 rfl (lv_at hl 1 rfl) ?_
      refine x_get (pc := 22) X E hI inX9 0 rfl rfl 3 (by decide) tw_2_10 rfl dX9_likely_22 ?_
      refine lv_iload_n (pc := 25) hx hb dX9_likely_25 rfl (lv_at hl 0 rfl) ?_
      refine lv_iload_n (pc := 26) hx hb dX9_likely_26 rfl (lv_at hl 2 rfl) ?_
      obtain ⟨t5, e5, hf⟩ := q_ob hf
      refine x_cVt (pc := 27) (st1 := [.int t5]) (w2 := (xb G h x_hasImage f_places f_kinds f_weights f_howManyGenerators f_generators f_racks f_howManySeen f_seenFirst f_seenSecond f_seenIs f_seenPlaces f_howManyEvents f_eventWhat f_eventNumber g_places g_kinds g_weights g_howManyGenerators g_generators g_racks g_howManySeen g_seenFirst g_seenSecond g_seenIs g_seenPlaces g_howManyEvents g_eventWhat g_eventNumber n_m0 n_m1 n_m2 n_s0 n_s1 n_s2 v_keys v_asFound v_found v_turns v_places p_keys p_asFound p_found p_turns p_places i_sort i_howOften i_sorts i_moves n_uq n_u u_leasts u_howMany u_known n_wq n_w w_leasts w_howMany w_known t_signs t_length t_whole t_begins t_ends r_sorts r_numbers r_length)) X E hI (c_X5_howManyMade l G n_m0 n_m1 n_m2 e5) kv_X9_192 hd_X5_howManyMade ⟨rfl, rfl⟩ (by decide) pt_xb_vw_0 pt_xb_vw_0q 0 rfl rfl rfl rfl hl.1 rfl (Nat.le_of_ble_eq_true rfl) dX9_likely_27 ⟨Nat.le_of_ble_eq_true rfl, Nat.le_of_ble_eq_true rfl⟩ rfl (fun H locs hI => ?_)
      refine lv_i2d (pc := 30) hx hb dX9_likely_30 ?_
      refine lv_aload_n (pc := 31) hx hb dX9_likely_31 rfl (lv_at hl 1 rfl) ?_
      obtain ⟨t6, e6, hf⟩ := q_ob hf
      refine x_cVs (pc := 32) (st1 := [.int t6, .double (FP.i2d t5)]) (w1 := ((xb G h x_hasImage f_places f_kinds f_weights f_howManyGenerators f_generators f_racks f_howManySeen f_seenFirst f_seenSecond f_seenIs f_seenPlaces f_howManyEvents f_eventWhat f_eventNumber g_places g_kinds g_weights g_howManyGenerators g_generators g_racks g_howManySeen g_seenFirst g_seenSecond g_seenIs g_seenPlaces g_howManyEvents g_eventWhat g_eventNumber n_m0 n_m1 n_m2 n_s0 n_s1 n_s2 v_keys v_asFound v_found v_turns v_places p_keys p_asFound p_found p_turns p_places i_sort i_howOften i_sorts i_moves n_uq n_u u_leasts u_howMany u_known n_wq n_w w_leasts w_howMany w_known t_signs t_length t_whole t_begins t_ends r_sorts r_numbers r_length) ++ wo)) X E hI (c_X9_paintings l G h e6) kv_X9_151 hd_X9_paintings ⟨rfl, rfl⟩ (by decide) 0 rfl rfl rfl rfl hl.1 rfl (Nat.le_of_ble_eq_true rfl) dX9_likely_32 ⟨Nat.le_of_ble_eq_true rfl, Nat.le_of_ble_eq_true rfl⟩ rfl (fun H locs hI => ?_)
      refine lv_i2d (pc := 35) hx hb dX9_likely_35 ?_
      obtain ⟨t7, e7, hf⟩ := q_ob hf
      refine x_ddiv (pc := 36) X e7 dX9_likely_36 ?_
      obtain ⟨t8, e8, hf⟩ := q_ob hf
      refine x_cSn (pc := 37) (st1 := [.long t8]) X E hI (c_X0_ofDouble l G e8) ks_X9_221 hd_X0_ofDouble ⟨rfl, rfl⟩ (by decide) rfl hl.1 rfl (Nat.le_of_ble_eq_true rfl) dX9_likely_37 ⟨Nat.le_of_ble_eq_true rfl, Nat.le_of_ble_eq_true rfl⟩ rfl (fun H locs hI => ?_)
      obtain rfl := Option.some.inj hf
      exact x_lret X hI dX9_likely_40
    · have hf := q_in c4 hf
      refine lv_ldc2 (pc := 17) (v := (-9223372036854775808)) hx hb hown (hts _ tw_2_191) dX9_likely_17 ?_
      obtain rfl := Option.some.inj hf
      exact x_lret X hI dX9_likely_20

abbrev rm_X9_mean : Room := { frames := 3, cells := 0, slots := 0, locals := 69 }
set_option maxHeartbeats 4000000 in
set_option maxRecDepth 100000 in
theorem c_X9_mean (l : Launch) (G : GX) (h : Nat → Nat) {l1 : Int32} {l2 : Int32} {f_places : Int32} {f_kinds : Int32} {f_weights : Nat → Int32} {x_hasImage : Int32} {f_howManyGenerators : Int32} {f_generators : Nat → Int32} {f_racks : Nat → Int32} {f_howManySeen : Int32} {f_seenFirst : Nat → Int32} {f_seenSecond : Nat → Int32} {f_seenIs : Nat → Int32} {f_seenPlaces : Nat → Int32} {f_howManyEvents : Int32} {f_eventWhat : Nat → Int32} {f_eventNumber : Nat → Int32} {g_places : Int32} {g_kinds : Int32} {g_weights : Nat → Int32} {g_howManyGenerators : Int32} {g_generators : Nat → Int32} {g_racks : Nat → Int32} {g_howManySeen : Int32} {g_seenFirst : Nat → Int32} {g_seenSecond : Nat → Int32} {g_seenIs : Nat → Int32} {g_seenPlaces : Nat → Int32} {g_howManyEvents : Int32} {g_eventWhat : Nat → Int32} {g_eventNumber : Nat → Int32} {n_m0 : Nat} {n_m1 : Nat} {n_m2 : Nat} {n_s0 : Nat} {n_s1 : Nat} {n_s2 : Nat} {v_keys : Nat → Int32} {v_asFound : Nat → Int32} {v_found : Int32} {v_turns : Int32} {v_places : Int32} {p_keys : Nat → Int32} {p_asFound : Nat → Int32} {p_found : Int32} {p_turns : Int32} {p_places : Int32} {i_sort : Nat → Int32} {i_howOften : Nat → Int32} {i_sorts : Int32} {i_moves : Int32} {n_uq : Nat} {n_u : Nat} {u_leasts : Nat → Int32} {u_howMany : Int32} {u_known : Int32} {n_wq : Nat} {n_w : Nat} {w_leasts : Nat → Int32} {w_howMany : Int32} {w_known : Int32} {t_signs : Nat → Int32} {t_length : Int32} {t_whole : Int32} {t_begins : Nat → Int32} {t_ends : Nat → Int32} {r_sorts : Nat → Int32} {r_numbers : Nat → Int32} {r_length : Int32} {wo : va_W} {res : Int32} (hf : f_X9_mean l1 l2 f_places f_kinds f_weights = some res) : MX l yX9_mean cX9_mean 5 (some .int) rm_X9_mean G ((xb G h x_hasImage f_places f_kinds f_weights f_howManyGenerators f_generators f_racks f_howManySeen f_seenFirst f_seenSecond f_seenIs f_seenPlaces f_howManyEvents f_eventWhat f_eventNumber g_places g_kinds g_weights g_howManyGenerators g_generators g_racks g_howManySeen g_seenFirst g_seenSecond g_seenIs g_seenPlaces g_howManyEvents g_eventWhat g_eventNumber n_m0 n_m1 n_m2 n_s0 n_s1 n_s2 v_keys v_asFound v_found v_turns v_places p_keys p_asFound p_found p_turns p_places i_sort i_howOften i_sorts i_moves n_uq n_u u_leasts u_howMany u_known n_wq n_w w_leasts w_howMany w_known t_signs t_length t_whole t_begins t_ends r_sorts r_numbers r_length) ++ wo) [.ref (h 0), .int l1, .int l2] ((xb G h x_hasImage f_places f_kinds f_weights f_howManyGenerators f_generators f_racks f_howManySeen f_seenFirst f_seenSecond f_seenIs f_seenPlaces f_howManyEvents f_eventWhat f_eventNumber g_places g_kinds g_weights g_howManyGenerators g_generators g_racks g_howManySeen g_seenFirst g_seenSecond g_seenIs g_seenPlaces g_howManyEvents g_eventWhat g_eventNumber n_m0 n_m1 n_m2 n_s0 n_s1 n_s2 v_keys v_asFound v_found v_turns v_places p_keys p_asFound p_found p_turns p_places i_sort i_howOften i_sorts i_moves n_uq n_u u_leasts u_howMany u_known n_wq n_w w_leasts w_howMany w_known t_signs t_length t_whole t_begins t_ends r_sorts r_numbers r_length) ++ wo) (some (.int res)) 0 0 := by
  refine MX.of (plainFor_of_name (by decide)) (Nat.le_of_ble_eq_true rfl) ?_
  intro p e s m below meth c A X E hI ls hl
  obtain ⟨hx, hb, hml, hown, hts, hr, hlk⟩ := id X
  have hl : lv_has ls 5 [(0, .ref (h 0)), (1, .int l1), (2, .int l2)] := hl
  unfold f_X9_mean at hf
  refine lv_aload_n (pc := 0) hx hb dX9_mean_0 rfl (lv_at hl 0 rfl) ?_
  refine lv_iload_n (pc := 1) hx hb dX9_mean_1 rfl (lv_at hl 1 rfl) ?_
  obtain ⟨t1, e1, hf⟩ := q_ob hf
  refine x_cVs (pc := 2) (st1 := [.int t1]) (w1 := ((xb G h x_hasImage f_places f_kinds f_weights f_howManyGenerators f_generators f_racks f_howManySeen f_seenFirst f_seenSecond f_seenIs f_seenPlaces f_howManyEvents f_eventWhat f_eventNumber g_places g_kinds g_weights g_howManyGenerators g_generators g_racks g_howManySeen g_seenFirst g_seenSecond g_seenIs g_seenPlaces g_howManyEvents g_eventWhat g_eventNumber n_m0 n_m1 n_m2 n_s0 n_s1 n_s2 v_keys v_asFound v_found v_turns v_places p_keys p_asFound p_found p_turns p_places i_sort i_howOften i_sorts i_moves n_uq n_u u_leasts u_howMany u_known n_wq n_w w_leasts w_howMany w_known t_signs t_length t_whole t_begins t_ends r_sorts r_numbers r_length) ++ wo)) X E hI (c_X9_packedPainting l G h e1) kv_X9_182 hd_X9_packedPainting ⟨rfl, rfl⟩ (by decide) 0 rfl rfl rfl rfl hl.1 rfl (Nat.le_of_ble_eq_true rfl) dX9_mean_2 ⟨Nat.le_of_ble_eq_true rfl, Nat.le_of_ble_eq_true rfl⟩ rfl (fun H locs hI => ?_)
  refine lv_istore_n (pc := 5) (lv' := [(3, .int t1), (0, .ref (h 0)), (1, .int l1), (2, .int l2)]) hx hb dX9_mean_5 rfl hl (by decide) rfl (fun ls hl => ?_)
  refine lv_iload_n (pc := 6) hx hb dX9_mean_6 rfl (lv_at hl 0 rfl) ?_
  refine lv_if_ge (pc := 7) (tgt := 13) hx hb dX9_mean_7 (by decide) (fun c2 => ?_) (fun c2 => ?_)
  · have hf := q_ip c2 hf
    refine lv_iload_n (pc := 13) hx hb dX9_mean_13 rfl (lv_at hl 3 rfl) ?_
    obtain ⟨t3, e3, hf⟩ := q_ob hf
    refine x_cSn (pc := 14) (st1 := [.int t3]) X E hI (c_X9_isFlag l G e3) ks_X9_99 hd_X9_isFlag ⟨rfl, rfl⟩ (by decide) rfl hl.1 rfl (Nat.le_of_ble_eq_true rfl) dX9_mean_14 ⟨Nat.le_of_ble_eq_true rfl, Nat.le_of_ble_eq_true rfl⟩ rfl (fun H locs hI => ?_)
    refine lv_if_ne (pc := 17) (tgt := 22) hx hb dX9_mean_17 (by decide) (fun c4 => ?_) (fun c4 => ?_)
    · have hf := q_in c4 hf
      refine lv_aload_n (pc := 22) hx hb dX9_mean_22 rfl (lv_at hl 1 rfl) ?_
      refine x_get (pc := 23) X E hI inX9 0 rfl rfl 0 (by decide) tw_2_7 rfl dX9_mean_23 ?_
      refine lv_iload_n (pc := 26) hx hb dX9_mean_26 rfl (lv_at hl 0 rfl) ?_
      obtain ⟨t5, e5, hf⟩ := q_ob hf
      refine x_cVt (pc := 27) (st1 := [.int t5]) (w2 := (xb G h x_hasImage f_places f_kinds f_weights f_howManyGenerators f_generators f_racks f_howManySeen f_seenFirst f_seenSecond f_seenIs f_seenPlaces f_howManyEvents f_eventWhat f_eventNumber g_places g_kinds g_weights g_howManyGenerators g_generators g_racks g_howManySeen g_seenFirst g_seenSecond g_seenIs g_seenPlaces g_howManyEvents g_eventWhat g_eventNumber n_m0 n_m1 n_m2 n_s0 n_s1 n_s2 v_keys v_asFound v_found v_turns v_places p_keys p_asFound p_found p_turns p_places i_sort i_howOften i_sorts i_moves n_uq n_u u_leasts u_howMany u_known n_wq n_w w_leasts w_howMany w_known t_signs t_length t_whole t_begins t_ends r_sorts r_numbers r_length)) X E hI (c_X3_weightOf l G (h 1) (h 2) (h 3) (h 4) (h 5) (h 6) (h 7) (h 8) (h 9) (h 10) e5) kv_X9_205 hd_X3_weightOf ⟨rfl, rfl⟩ (by decide) pt_xb_fw_0 pt_xb_fw_0q 0 rfl rfl rfl rfl hl.1 rfl (Nat.le_of_ble_eq_true rfl) dX9_mean_27 ⟨Nat.le_of_ble_eq_true rfl, Nat.le_of_ble_eq_true rfl⟩ rfl (fun H locs hI => ?_)
      refine lv_i2f (pc := 30) hx hb dX9_mean_30 ?_
      refine lv_aload_n (pc := 31) hx hb dX9_mean_31 rfl (lv_at hl 1 rfl) ?_
      refine x_get (pc := 32) X E hI inX9 0 rfl rfl 0 (by decide) tw_2_7 rfl dX9_mean_32 ?_
      refine x_get (pc := 35) X E hI inX3 1 rfl rfl 0 (by decide) tw_1_35 rfl dX9_mean_35 ?_
      refine lv_i2f (pc := 38) hx hb dX9_mean_38 ?_
      obtain ⟨t6, e6, hf⟩ := q_ob hf
      refine x_fdiv (pc := 39) X e6 dX9_mean_39 ?_
      refine lv_fstore (pc := 40) (lv' := [(4, .float t6), (3, .int t1), (0, .ref (h 0)), (1, .int l1), (2, .int l2)]) hx hb dX9_mean_40 hl (by decide) rfl (fun ls hl => ?_)
      refine lv_iload_n (pc := 42) hx hb dX9_mean_42 rfl (lv_at hl 4 rfl) ?_
      refine lv_if_ne (pc := 43) (tgt := 54) hx hb dX9_mean_43 (by decide) (fun c7 => ?_) (fun c7 => ?_)
      · have hf := q_in c7 hf
        refine lv_fload (pc := 54) hx hb dX9_mean_54 (lv_at hl 0 rfl) ?_
        refine lv_ldcf (pc := 56) (v := 1056964608) hx hb hown (hts _ tw_3_62) dX9_mean_56 ?_
        obtain ⟨t8, e8, hf⟩ := q_ob hf
        refine x_fadd (pc := 58) X e8 dX9_mean_58 ?_
        refine lv_f2i (pc := 59) hx hb dX9_mean_59 ?_
        obtain rfl := Option.some.inj hf
        exact x_iret X hI dX9_mean_60
      · have hf := q_ip c7 hf
        refine lv_fload (pc := 46) hx hb dX9_mean_46 (lv_at hl 0 rfl) ?_
        obtain ⟨t9, e9, hf⟩ := q_ob hf
        refine x_cSn (pc := 48) (st1 := [.int t9]) X E hI (c_X0_ofFloat l G e9) ks_X9_215 hd_X0_ofFloat ⟨rfl, rfl⟩ (by decide) rfl hl.1 rfl (Nat.le_of_ble_eq_true rfl) dX9_mean_48 ⟨Nat.le_of_ble_eq_true rfl, Nat.le_of_ble_eq_true rfl⟩ rfl (fun H locs hI => ?_)
        refine lv_goto (pc := 51) (tgt := 60) hx hb dX9_mean_51 (by decide) ?_
        obtain rfl := Option.some.inj hf
        exact x_iret X hI dX9_mean_60
    · have hf := q_ip c4 hf
      refine lv_iconst (pc := 20) (v := (-1)) hx hb dX9_mean_20 (by decide) ?_
      obtain rfl := Option.some.inj hf
      exact x_iret X hI dX9_mean_21
  · have hf := q_in c2 hf
    refine lv_bipush (pc := 10) (v := (-2)) hx hb dX9_mean_10 (by decide) ?_
    obtain rfl := Option.some.inj hf
    exact x_iret X hI dX9_mean_12

abbrev rm_X9_spread : Room := { frames := 3, cells := 0, slots := 0, locals := 69 }
set_option maxHeartbeats 4000000 in
set_option maxRecDepth 100000 in
theorem k_X9_spread_L47 {p : Program} {l : Launch} {e : Env} {s : State} {m : MethodId} {args : Array Value} {below : List Frame} {meth : Method} {c : Code} {A : Nat → Prop} {G : GX} {h : Nat → Nat} {l2 : Int32} {l3 : Int32} {l4 : UInt64} {x_hasImage : Int32} {f_places : Int32} {f_kinds : Int32} {f_weights : Nat → Int32} {f_howManyGenerators : Int32} {f_generators : Nat → Int32} {f_racks : Nat → Int32} {f_howManySeen : Int32} {f_seenFirst : Nat → Int32} {f_seenSecond : Nat → Int32} {f_seenIs : Nat → Int32} {f_seenPlaces : Nat → Int32} {f_howManyEvents : Int32} {f_eventWhat : Nat → Int32} {f_eventNumber : Nat → Int32} {g_places : Int32} {g_kinds : Int32} {g_weights : Nat → Int32} {g_howManyGenerators : Int32} {g_generators : Nat → Int32} {g_racks : Nat → Int32} {g_howManySeen : Int32} {g_seenFirst : Nat → Int32} {g_seenSecond : Nat → Int32} {g_seenIs : Nat → Int32} {g_seenPlaces : Nat → Int32} {g_howManyEvents : Int32} {g_eventWhat : Nat → Int32} {g_eventNumber : Nat → Int32} {n_m0 : Nat} {n_m1 : Nat} {n_m2 : Nat} {n_s0 : Nat} {n_s1 : Nat} {n_s2 : Nat} {v_keys : Nat → Int32} {v_asFound : Nat → Int32} {v_found : Int32} {v_turns : Int32} {v_places : Int32} {p_keys : Nat → Int32} {p_asFound : Nat → Int32} {p_found : Int32} {p_turns : Int32} {p_places : Int32} {i_sort : Nat → Int32} {i_howOften : Nat → Int32} {i_sorts : Int32} {i_moves : Int32} {n_uq : Nat} {n_u : Nat} {u_leasts : Nat → Int32} {u_howMany : Int32} {u_known : Int32} {n_wq : Nat} {n_w : Nat} {w_leasts : Nat → Int32} {w_howMany : Int32} {w_known : Int32} {t_signs : Nat → Int32} {t_length : Int32} {t_whole : Int32} {t_begins : Nat → Int32} {t_ends : Nat → Int32} {r_sorts : Nat → Int32} {r_numbers : Nat → Int32} {r_length : Int32} {wo : va_W} {K : UInt64 → Int32 → Option (Int64)} {res : Int64} (X : CX RX9 cX9_spread 11 (some .long) p s m args meth c) (E : EX G A s)
    (hK : ∀ (l6 : UInt64) (l8 : Int32) (H : Heap) (locs : List Loc) (ls : Array Slot), IN A G ((xb G h x_hasImage f_places f_kinds f_weights f_howManyGenerators f_generators f_racks f_howManySeen f_seenFirst f_seenSecond f_seenIs f_seenPlaces f_howManyEvents f_eventWhat f_eventNumber g_places g_kinds g_weights g_howManyGenerators g_generators g_racks g_howManySeen g_seenFirst g_seenSecond g_seenIs g_seenPlaces g_howManyEvents g_eventWhat g_eventNumber n_m0 n_m1 n_m2 n_s0 n_s1 n_s2 v_keys v_asFound v_found v_turns v_places p_keys p_asFound p_found p_turns p_places i_sort i_howOften i_sorts i_moves n_uq n_u u_leasts u_howMany u_known n_wq n_w w_leasts w_howMany w_known t_signs t_length t_whole t_begins t_ends r_sorts r_numbers r_length) ++ wo) s H locs → lv_has ls 11 [(0, .ref (h 0)), (2, .int l2), (3, .int l3), (4, .double l4), (6, .double l6), (8, .int l8)] → K l6 l8 = some res → W p l e rm_X9_spread s m args below meth c H locs 0 0 (MQ below (QX G A ((xb G h x_hasImage f_places f_kinds f_weights f_howManyGenerators f_generators f_racks f_howManySeen f_seenFirst f_seenSecond f_seenIs f_seenPlaces f_howManyEvents f_eventWhat f_eventNumber g_places g_kinds g_weights g_howManyGenerators g_generators g_racks g_howManySeen g_seenFirst g_seenSecond g_seenIs g_seenPlaces g_howManyEvents g_eventWhat g_eventNumber n_m0 n_m1 n_m2 n_s0 n_s1 n_s2 v_keys v_asFound v_found v_turns v_places p_keys p_asFound p_found p_turns p_places i_sort i_howOften i_sorts i_moves n_uq n_u u_leasts u_howMany u_known n_wq n_w w_leasts w_howMany w_known t_signs t_length t_whole t_begins t_ends r_sorts r_numbers r_length) ++ wo) (some (.long res))) args s 0 0 A) (F0 m 91 ls [])) :
    ∀ {k : Nat} {l6 : UInt64} {l8 : Int32} {H : Heap} {locs : List Loc} {ls : Array Slot}, IN A G ((xb G h x_hasImage f_places f_kinds f_weights f_howManyGenerators f_generators f_racks f_howManySeen f_seenFirst f_seenSecond f_seenIs f_seenPlaces f_howManyEvents f_eventWhat f_eventNumber g_places g_kinds g_weights g_howManyGenerators g_generators g_racks g_howManySeen g_seenFirst g_seenSecond g_seenIs g_seenPlaces g_howManyEvents g_eventWhat g_eventNumber n_m0 n_m1 n_m2 n_s0 n_s1 n_s2 v_keys v_asFound v_found v_turns v_places p_keys p_asFound p_found p_turns p_places i_sort i_howOften i_sorts i_moves n_uq n_u u_leasts u_howMany u_known n_wq n_w w_leasts w_howMany w_known t_signs t_length t_whole t_begins t_ends r_sorts r_numbers r_length) ++ wo) s H locs → lv_has ls 11 [(0, .ref (h 0)), (2, .int l2), (3, .int l3), (4, .double l4), (6, .double l6), (8, .int l8)] → f_X9_spread_L47 l2 l3 l4 f_places f_weights K k l6 l8 = some res → W p l e rm_X9_spread s m args below meth c H locs 0 0 (MQ below (QX G A ((xb G h x_hasImage f_places f_kinds f_weights f_howManyGenerators f_generators f_racks f_howManySeen f_seenFirst f_seenSecond f_seenIs f_seenPlaces f_howManyEvents f_eventWhat f_eventNumber g_places g_kinds g_weights g_howManyGenerators g_generators g_racks g_howManySeen g_seenFirst g_seenSecond g_seenIs g_seenPlaces g_howManyEvents g_eventWhat g_eventNumber n_m0 n_m1 n_m2 n_s0 n_s1 n_s2 v_keys v_asFound v_found v_turns v_places p_keys p_asFound p_found p_turns p_places i_sort i_howOften i_sorts i_moves n_uq n_u u_leasts u_howMany u_known n_wq n_w w_leasts w_howMany w_known t_signs t_length t_whole t_begins t_ends r_sorts r_numbers r_length) ++ wo) (some (.long res))) args s 0 0 A) (F0 m 47 ls []) := by
  obtain ⟨hx, hb, hml, hown, hts, hr, hlk⟩ := id X
  intro k
  induction k with
  | zero => intro l6 l8 H locs ls hI hl hf; exact nomatch (show none = some res from hf)
  | succ k ih =>
    intro l6 l8 H locs ls hI hl hf
    rw [f_X9_spread_L47] at hf
    refine lv_iload (pc := 47) hx hb dX9_spread_47 (lv_at hl 5 rfl) ?_
    refine lv_aload_n (pc := 49) hx hb dX9_spread_49 rfl (lv_at hl 0 rfl) ?_
    refine x_get (pc := 50) X E hI inX9 0 rfl rfl 0 (by decide) tw_2_7 rfl dX9_spread_50 ?_
    refine x_get (pc := 53) X E hI inX3 1 rfl rfl 0 (by decide) tw_1_35 rfl dX9_spread_53 ?_
    refine lv_icmp_ge (pc := 56) (tgt := 91) hx hb dX9_spread_56 (by decide) (fun c1 => ?_) (fun c1 => ?_)
    · have hf := q_ip c1 hf
      exact hK _ _ _ _ _ hI (lv_sub hl [0, 1, 2, 3, 4, 5] rfl) hf
    · have hf := q_in c1 hf
      refine lv_aload_n (pc := 59) hx hb dX9_spread_59 rfl (lv_at hl 0 rfl) ?_
      refine x_get (pc := 60) X E hI inX9 0 rfl rfl 0 (by decide) tw_2_7 rfl dX9_spread_60 ?_
      refine lv_iload_n (pc := 63) hx hb dX9_spread_63 rfl (lv_at hl 2 rfl) ?_
      refine lv_iload (pc := 64) hx hb dX9_spread_64 (lv_at hl 5 rfl) ?_
      obtain ⟨t2, e2, hf⟩ := q_ob hf
      refine x_cVt (pc := 66) (st1 := [.int t2]) (w2 := (xb G h x_hasImage f_places f_kinds f_weights f_howManyGenerators f_generators f_racks f_howManySeen f_seenFirst f_seenSecond f_seenIs f_seenPlaces f_howManyEvents f_eventWhat f_eventNumber g_places g_kinds g_weights g_howManyGenerators g_generators g_racks g_howManySeen g_seenFirst g_seenSecond g_seenIs g_seenPlaces g_howManyEvents g_eventWhat g_eventNumber n_m0 n_m1 n_m2 n_s0 n_s1 n_s2 v_keys v_asFound v_found v_turns v_places p_keys p_asFound p_found p_turns p_places i_sort i_howOften i_sorts i_moves n_uq n_u u_leasts u_howMany u_known n_wq n_w w_leasts w_howMany w_known t_signs t_length t_whole t_begins t_ends r_sorts r_numbers r_length)) X E hI (c_X3_weightAt l G (h 1) (h 2) (h 3) (h 4) (h 5) (h 6) (h 7) (h 8) (h 9) (h 10) e2) kv_X9_226 hd_X3_weightAt ⟨rfl, rfl⟩ (by decide) pt_xb_fw_0 pt_xb_fw_0q 0 rfl rfl rfl rfl hl.1 rfl (Nat.le_of_ble_eq_true rfl) dX9_spread_66 ⟨Nat.le_of_ble_eq_true rfl, Nat.le_of_ble_eq_true rfl⟩ rfl (fun H locs hI => ?_)
      refine lv_i2d (pc := 69) hx hb dX9_spread_69 ?_
      refine lv_dload (pc := 70) hx hb dX9_spread_70 (lv_at hl 3 rfl) ?_
      obtain ⟨t3, e3, hf⟩ := q_ob hf
      refine x_dsub (pc := 72) X e3 dX9_spread_72 ?_
      refine lv_dstore (pc := 73) (lv' := [(9, .double t3), (0, .ref (h 0)), (2, .int l2), (3, .int l3), (4, .double l4), (6, .double l6), (8, .int l8)]) hx hb dX9_spread_73 hl (by decide) rfl (fun ls hl => ?_)
      refine lv_dload (pc := 75) hx hb dX9_spread_75 (lv_at hl 5 rfl) ?_
      refine lv_dload (pc := 77) hx hb dX9_spread_77 (lv_at hl 0 rfl) ?_
      refine lv_dload (pc := 79) hx hb dX9_spread_79 (lv_at hl 0 rfl) ?_
      obtain ⟨t4, e4, hf⟩ := q_ob hf
      refine x_dmul (pc := 81) X e4 dX9_spread_81 ?_
      obtain ⟨t5, e5, hf⟩ := q_ob hf
      refine x_dadd (pc := 82) X e5 dX9_spread_82 ?_
      refine lv_dstore (pc := 83) (lv' := [(6, .double t5), (9, .double t3), (0, .ref (h 0)), (2, .int l2), (3, .int l3), (4, .double l4), (8, .int l8)]) hx hb dX9_spread_83 hl (by decide) rfl (fun ls hl => ?_)
      refine lv_iinc (pc := 85) (v := l8 + 1) (lv' := [(8, .int (l8 + 1)), (6, .double t5), (9, .double t3), (0, .ref (h 0)), (2, .int l2), (3, .int l3), (4, .double l4)]) hx hb dX9_spread_85 hl (k := 6) rfl rfl (by decide) rfl (fun ls hl => ?_)
      refine lv_goto (pc := 88) (tgt := 47) hx hb dX9_spread_88 (by decide) ?_
      exact ih hI (lv_sub hl [3, 4, 5, 6, 1, 0] rfl) hf

set_option maxHeartbeats 4000000 in
set_option maxRecDepth 100000 in
theorem c_X9_spread (l : Launch) (G : GX) (h : Nat → Nat) {l1 : Int32} {l2 : Int32} {f_places : Int32} {f_kinds : Int32} {f_weights : Nat → Int32} {x_hasImage : Int32} {f_howManyGenerators : Int32} {f_generators : Nat → Int32} {f_racks : Nat → Int32} {f_howManySeen : Int32} {f_seenFirst : Nat → Int32} {f_seenSecond : Nat → Int32} {f_seenIs : Nat → Int32} {f_seenPlaces : Nat → Int32} {f_howManyEvents : Int32} {f_eventWhat : Nat → Int32} {f_eventNumber : Nat → Int32} {g_places : Int32} {g_kinds : Int32} {g_weights : Nat → Int32} {g_howManyGenerators : Int32} {g_generators : Nat → Int32} {g_racks : Nat → Int32} {g_howManySeen : Int32} {g_seenFirst : Nat → Int32} {g_seenSecond : Nat → Int32} {g_seenIs : Nat → Int32} {g_seenPlaces : Nat → Int32} {g_howManyEvents : Int32} {g_eventWhat : Nat → Int32} {g_eventNumber : Nat → Int32} {n_m0 : Nat} {n_m1 : Nat} {n_m2 : Nat} {n_s0 : Nat} {n_s1 : Nat} {n_s2 : Nat} {v_keys : Nat → Int32} {v_asFound : Nat → Int32} {v_found : Int32} {v_turns : Int32} {v_places : Int32} {p_keys : Nat → Int32} {p_asFound : Nat → Int32} {p_found : Int32} {p_turns : Int32} {p_places : Int32} {i_sort : Nat → Int32} {i_howOften : Nat → Int32} {i_sorts : Int32} {i_moves : Int32} {n_uq : Nat} {n_u : Nat} {u_leasts : Nat → Int32} {u_howMany : Int32} {u_known : Int32} {n_wq : Nat} {n_w : Nat} {w_leasts : Nat → Int32} {w_howMany : Int32} {w_known : Int32} {t_signs : Nat → Int32} {t_length : Int32} {t_whole : Int32} {t_begins : Nat → Int32} {t_ends : Nat → Int32} {r_sorts : Nat → Int32} {r_numbers : Nat → Int32} {r_length : Int32} {wo : va_W} {res : Int64} (hf : f_X9_spread l1 l2 f_places f_kinds f_weights = some res) : MX l yX9_spread cX9_spread 11 (some .long) rm_X9_spread G ((xb G h x_hasImage f_places f_kinds f_weights f_howManyGenerators f_generators f_racks f_howManySeen f_seenFirst f_seenSecond f_seenIs f_seenPlaces f_howManyEvents f_eventWhat f_eventNumber g_places g_kinds g_weights g_howManyGenerators g_generators g_racks g_howManySeen g_seenFirst g_seenSecond g_seenIs g_seenPlaces g_howManyEvents g_eventWhat g_eventNumber n_m0 n_m1 n_m2 n_s0 n_s1 n_s2 v_keys v_asFound v_found v_turns v_places p_keys p_asFound p_found p_turns p_places i_sort i_howOften i_sorts i_moves n_uq n_u u_leasts u_howMany u_known n_wq n_w w_leasts w_howMany w_known t_signs t_length t_whole t_begins t_ends r_sorts r_numbers r_length) ++ wo) [.ref (h 0), .int l1, .int l2] ((xb G h x_hasImage f_places f_kinds f_weights f_howManyGenerators f_generators f_racks f_howManySeen f_seenFirst f_seenSecond f_seenIs f_seenPlaces f_howManyEvents f_eventWhat f_eventNumber g_places g_kinds g_weights g_howManyGenerators g_generators g_racks g_howManySeen g_seenFirst g_seenSecond g_seenIs g_seenPlaces g_howManyEvents g_eventWhat g_eventNumber n_m0 n_m1 n_m2 n_s0 n_s1 n_s2 v_keys v_asFound v_found v_turns v_places p_keys p_asFound p_found p_turns p_places i_sort i_howOften i_sorts i_moves n_uq n_u u_leasts u_howMany u_known n_wq n_w w_leasts w_howMany w_known t_signs t_length t_whole t_begins t_ends r_sorts r_numbers r_length) ++ wo) (some (.long res)) 0 0 := by
  refine MX.of (plainFor_of_name (by decide)) (Nat.le_of_ble_eq_true rfl) ?_
  intro p e s m below meth c A X E hI ls hl
  obtain ⟨hx, hb, hml, hown, hts, hr, hlk⟩ := id X
  have hl : lv_has ls 11 [(0, .ref (h 0)), (1, .int l1), (2, .int l2)] := hl
  unfold f_X9_spread at hf
  refine lv_aload_n (pc := 0) hx hb dX9_spread_0 rfl (lv_at hl 0 rfl) ?_
  refine lv_iload_n (pc := 1) hx hb dX9_spread_1 rfl (lv_at hl 1 rfl) ?_
  obtain ⟨t1, e1, hf⟩ := q_ob hf
  refine x_cVs (pc := 2) (st1 := [.int t1]) (w1 := ((xb G h x_hasImage f_places f_kinds f_weights f_howManyGenerators f_generators f_racks f_howManySeen f_seenFirst f_seenSecond f_seenIs f_seenPlaces f_howManyEvents f_eventWhat f_eventNumber g_places g_kinds g_weights g_howManyGenerators g_generators g_racks g_howManySeen g_seenFirst g_seenSecond g_seenIs g_seenPlaces g_howManyEvents g_eventWhat g_eventNumber n_m0 n_m1 n_m2 n_s0 n_s1 n_s2 v_keys v_asFound v_found v_turns v_places p_keys p_asFound p_found p_turns p_places i_sort i_howOften i_sorts i_moves n_uq n_u u_leasts u_howMany u_known n_wq n_w w_leasts w_howMany w_known t_signs t_length t_whole t_begins t_ends r_sorts r_numbers r_length) ++ wo)) X E hI (c_X9_packedPainting l G h e1) kv_X9_182 hd_X9_packedPainting ⟨rfl, rfl⟩ (by decide) 0 rfl rfl rfl rfl hl.1 rfl (Nat.le_of_ble_eq_true rfl) dX9_spread_2 ⟨Nat.le_of_ble_eq_true rfl, Nat.le_of_ble_eq_true rfl⟩ rfl (fun H locs hI => ?_)
  refine lv_istore_n (pc := 5) (lv' := [(3, .int t1), (0, .ref (h 0)), (1, .int l1), (2, .int l2)]) hx hb dX9_spread_5 rfl hl (by decide) rfl (fun ls hl => ?_)
  refine lv_iload_n (pc := 6) hx hb dX9_spread_6 rfl (lv_at hl 0 rfl) ?_
  refine lv_if_lt (pc := 7) (tgt := 17) hx hb dX9_spread_7 (by decide) (fun c2 => ?_) (fun c2 => ?_)
  · have hf := q_ip c2 hf
    refine lv_ldc2 (pc := 17) (v := (-9223372036854775808)) hx hb hown (hts _ tw_2_191) dX9_spread_17 ?_
    obtain rfl := Option.some.inj hf
    exact x_lret X hI dX9_spread_20
  · have hf := q_in c2 hf
    refine lv_iload_n (pc := 10) hx hb dX9_spread_10 rfl (lv_at hl 3 rfl) ?_
    obtain ⟨t3, e3, hf⟩ := q_ob hf
    refine x_cSn (pc := 11) (st1 := [.int t3]) X E hI (c_X9_isFlag l G e3) ks_X9_99 hd_X9_isFlag ⟨rfl, rfl⟩ (by decide) rfl hl.1 rfl (Nat.le_of_ble_eq_true rfl) dX9_spread_11 ⟨Nat.le_of_ble_eq_true rfl, Nat.le_of_ble_eq_true rfl⟩ rfl (fun H locs hI => ?_)
    refine lv_if_ne (pc := 14) (tgt := 21) hx hb dX9_spread_14 (by decide) (fun c4 => ?_) (fun c4 => ?_)
    · have hf := q_in c4 hf
      refine lv_aload_n (pc := 21) hx hb dX9_spread_21 rfl (lv_at hl 1 rfl) ?_
      refine x_get (pc := 22) X E hI inX9 0 rfl rfl 0 (by decide) tw_2_7 rfl dX9_spread_22 ?_
      refine lv_iload_n (pc := 25) hx hb dX9_spread_25 rfl (lv_at hl 0 rfl) ?_
      obtain ⟨t5, e5, hf⟩ := q_ob hf
      refine x_cVt (pc := 26) (st1 := [.int t5]) (w2 := (xb G h x_hasImage f_places f_kinds f_weights f_howManyGenerators f_generators f_racks f_howManySeen f_seenFirst f_seenSecond f_seenIs f_seenPlaces f_howManyEvents f_eventWhat f_eventNumber g_places g_kinds g_weights g_howManyGenerators g_generators g_racks g_howManySeen g_seenFirst g_seenSecond g_seenIs g_seenPlaces g_howManyEvents g_eventWhat g_eventNumber n_m0 n_m1 n_m2 n_s0 n_s1 n_s2 v_keys v_asFound v_found v_turns v_places p_keys p_asFound p_found p_turns p_places i_sort i_howOften i_sorts i_moves n_uq n_u u_leasts u_howMany u_known n_wq n_w w_leasts w_howMany w_known t_signs t_length t_whole t_begins t_ends r_sorts r_numbers r_length)) X E hI (c_X3_weightOf l G (h 1) (h 2) (h 3) (h 4) (h 5) (h 6) (h 7) (h 8) (h 9) (h 10) e5) kv_X9_205 hd_X3_weightOf ⟨rfl, rfl⟩ (by decide) pt_xb_fw_0 pt_xb_fw_0q 0 rfl rfl rfl rfl hl.1 rfl (Nat.le_of_ble_eq_true rfl) dX9_spread_26 ⟨Nat.le_of_ble_eq_true rfl, Nat.le_of_ble_eq_true rfl⟩ rfl (fun H locs hI => ?_)
      refine lv_i2d (pc := 29) hx hb dX9_spread_29 ?_
      refine lv_aload_n (pc := 30) hx hb dX9_spread_30 rfl (lv_at hl 1 rfl) ?_
      refine x_get (pc := 31) X E hI inX9 0 rfl rfl 0 (by decide) tw_2_7 rfl dX9_spread_31 ?_
      refine x_get (pc := 34) X E hI inX3 1 rfl rfl 0 (by decide) tw_1_35 rfl dX9_spread_34 ?_
      refine lv_i2d (pc := 37) hx hb dX9_spread_37 ?_
      obtain ⟨t6, e6, hf⟩ := q_ob hf
      refine x_ddiv (pc := 38) X e6 dX9_spread_38 ?_
      refine lv_dstore (pc := 39) (lv' := [(4, .double t6), (3, .int t1), (0, .ref (h 0)), (1, .int l1), (2, .int l2)]) hx hb dX9_spread_39 hl (by decide) rfl (fun ls hl => ?_)
      refine lv_dconst0 (pc := 41) hx hb dX9_spread_41 ?_
      refine lv_dstore (pc := 42) (lv' := [(6, .double FP.dconst0), (4, .double t6), (3, .int t1), (0, .ref (h 0)), (1, .int l1), (2, .int l2)]) hx hb dX9_spread_42 hl (by decide) rfl (fun ls hl => ?_)
      refine lv_iconst (pc := 44) (v := 0) hx hb dX9_spread_44 (by decide) ?_
      refine lv_istore (pc := 45) (lv' := [(8, .int 0), (6, .double FP.dconst0), (4, .double t6), (3, .int t1), (0, .ref (h 0)), (1, .int l1), (2, .int l2)]) hx hb dX9_spread_45 hl (by decide) rfl (fun ls hl => ?_)
      refine k_X9_spread_L47 X E (fun l6_7 l8_7 H locs ls hI hl hf => ?_) hI (lv_sub hl [4, 6, 3, 2, 1, 0] rfl) hf
      refine lv_dload (pc := 91) hx hb dX9_spread_91 (lv_at hl 4 rfl) ?_
      refine lv_aload_n (pc := 93) hx hb dX9_spread_93 rfl (lv_at hl 0 rfl) ?_
      refine x_get (pc := 94) X E hI inX9 0 rfl rfl 0 (by decide) tw_2_7 rfl dX9_spread_94 ?_
      refine x_get (pc := 97) X E hI inX3 1 rfl rfl 0 (by decide) tw_1_35 rfl dX9_spread_97 ?_
      refine lv_i2d (pc := 100) hx hb dX9_spread_100 ?_
      obtain ⟨t8, e8, hf⟩ := q_ob hf
      refine x_ddiv (pc := 101) X e8 dX9_spread_101 ?_
      refine lv_dstore (pc := 102) (lv' := [(8, .double t8), (0, .ref (h 0)), (2, .int l2), (3, .int t1), (4, .double t6), (6, .double l6_7)]) hx hb dX9_spread_102 hl (by decide) rfl (fun ls hl => ?_)
      refine lv_iload_n (pc := 104) hx hb dX9_spread_104 rfl (lv_at hl 2 rfl) ?_
      refine lv_if_ne (pc := 105) (tgt := 116) hx hb dX9_spread_105 (by decide) (fun c9 => ?_) (fun c9 => ?_)
      · have hf := q_in c9 hf
        refine lv_dload (pc := 116) hx hb dX9_spread_116 (lv_at hl 0 rfl) ?_
        refine lv_d2l (pc := 118) hx hb dX9_spread_118 ?_
        obtain rfl := Option.some.inj hf
        exact x_lret X hI dX9_spread_119
      · have hf := q_ip c9 hf
        refine lv_dload (pc := 108) hx hb dX9_spread_108 (lv_at hl 0 rfl) ?_
        obtain ⟨t10, e10, hf⟩ := q_ob hf
        refine x_cSn (pc := 110) (st1 := [.long t10]) X E hI (c_X0_ofDouble l G e10) ks_X9_221 hd_X0_ofDouble ⟨rfl, rfl⟩ (by decide) rfl hl.1 rfl (Nat.le_of_ble_eq_true rfl) dX9_spread_110 ⟨Nat.le_of_ble_eq_true rfl, Nat.le_of_ble_eq_true rfl⟩ rfl (fun H locs hI => ?_)
        refine lv_goto (pc := 113) (tgt := 119) hx hb dX9_spread_113 (by decide) ?_
        obtain rfl := Option.some.inj hf
        exact x_lret X hI dX9_spread_119
    · have hf := q_ip c4 hf
      refine lv_ldc2 (pc := 17) (v := (-9223372036854775808)) hx hb hown (hts _ tw_2_191) dX9_spread_17 ?_
      obtain rfl := Option.some.inj hf
      exact x_lret X hI dX9_spread_20

abbrev rm_X9_feed : Room := { frames := 1, cells := 0, slots := 0, locals := 21 }
set_option maxHeartbeats 4000000 in
set_option maxRecDepth 100000 in
theorem c_X9_feed (l : Launch) (G : GX) (h : Nat → Nat) {l1 : Int32} {t_signs : Nat → Int32} {t_length : Int32} {x_hasImage : Int32} {f_places : Int32} {f_kinds : Int32} {f_weights : Nat → Int32} {f_howManyGenerators : Int32} {f_generators : Nat → Int32} {f_racks : Nat → Int32} {f_howManySeen : Int32} {f_seenFirst : Nat → Int32} {f_seenSecond : Nat → Int32} {f_seenIs : Nat → Int32} {f_seenPlaces : Nat → Int32} {f_howManyEvents : Int32} {f_eventWhat : Nat → Int32} {f_eventNumber : Nat → Int32} {g_places : Int32} {g_kinds : Int32} {g_weights : Nat → Int32} {g_howManyGenerators : Int32} {g_generators : Nat → Int32} {g_racks : Nat → Int32} {g_howManySeen : Int32} {g_seenFirst : Nat → Int32} {g_seenSecond : Nat → Int32} {g_seenIs : Nat → Int32} {g_seenPlaces : Nat → Int32} {g_howManyEvents : Int32} {g_eventWhat : Nat → Int32} {g_eventNumber : Nat → Int32} {n_m0 : Nat} {n_m1 : Nat} {n_m2 : Nat} {n_s0 : Nat} {n_s1 : Nat} {n_s2 : Nat} {v_keys : Nat → Int32} {v_asFound : Nat → Int32} {v_found : Int32} {v_turns : Int32} {v_places : Int32} {p_keys : Nat → Int32} {p_asFound : Nat → Int32} {p_found : Int32} {p_turns : Int32} {p_places : Int32} {i_sort : Nat → Int32} {i_howOften : Nat → Int32} {i_sorts : Int32} {i_moves : Int32} {n_uq : Nat} {n_u : Nat} {u_leasts : Nat → Int32} {u_howMany : Int32} {u_known : Int32} {n_wq : Nat} {n_w : Nat} {w_leasts : Nat → Int32} {w_howMany : Int32} {w_known : Int32} {t_whole : Int32} {t_begins : Nat → Int32} {t_ends : Nat → Int32} {r_sorts : Nat → Int32} {r_numbers : Nat → Int32} {r_length : Int32} {wo : va_W} {res : Int32 × (Nat → Int32) × Int32} (hf : f_X9_feed l1 t_signs t_length = some res) : MX l yX9_feed cX9_feed 2 (some .int) rm_X9_feed G ((xb G h x_hasImage f_places f_kinds f_weights f_howManyGenerators f_generators f_racks f_howManySeen f_seenFirst f_seenSecond f_seenIs f_seenPlaces f_howManyEvents f_eventWhat f_eventNumber g_places g_kinds g_weights g_howManyGenerators g_generators g_racks g_howManySeen g_seenFirst g_seenSecond g_seenIs g_seenPlaces g_howManyEvents g_eventWhat g_eventNumber n_m0 n_m1 n_m2 n_s0 n_s1 n_s2 v_keys v_asFound v_found v_turns v_places p_keys p_asFound p_found p_turns p_places i_sort i_howOften i_sorts i_moves n_uq n_u u_leasts u_howMany u_known n_wq n_w w_leasts w_howMany w_known t_signs t_length t_whole t_begins t_ends r_sorts r_numbers r_length) ++ wo) [.ref (h 0), .int l1] ((xb G h x_hasImage f_places f_kinds f_weights f_howManyGenerators f_generators f_racks f_howManySeen f_seenFirst f_seenSecond f_seenIs f_seenPlaces f_howManyEvents f_eventWhat f_eventNumber g_places g_kinds g_weights g_howManyGenerators g_generators g_racks g_howManySeen g_seenFirst g_seenSecond g_seenIs g_seenPlaces g_howManyEvents g_eventWhat g_eventNumber n_m0 n_m1 n_m2 n_s0 n_s1 n_s2 v_keys v_asFound v_found v_turns v_places p_keys p_asFound p_found p_turns p_places i_sort i_howOften i_sorts i_moves n_uq n_u u_leasts u_howMany u_known n_wq n_w w_leasts w_howMany w_known res.2.1 res.2.2 t_whole t_begins t_ends r_sorts r_numbers r_length) ++ wo) (some (.int res.1)) 0 0 := by
  refine MX.of (plainFor_of_name (by decide)) (Nat.le_of_ble_eq_true rfl) ?_
  intro p e s m below meth c A X E hI ls hl
  obtain ⟨hx, hb, hml, hown, hts, hr, hlk⟩ := id X
  have hl : lv_has ls 2 [(0, .ref (h 0)), (1, .int l1)] := hl
  unfold f_X9_feed at hf
  refine lv_iload_n (pc := 0) hx hb dX9_feed_0 rfl (lv_at hl 1 rfl) ?_
  refine lv_if_lt (pc := 1) (tgt := 10) hx hb dX9_feed_1 (by decide) (fun c1 => ?_) (fun c1 => ?_)
  · have hf := q_ip c1 hf
    refine lv_bipush (pc := 10) (v := (-2)) hx hb dX9_feed_10 (by decide) ?_
    obtain rfl := Option.some.inj hf
    exact x_iret X hI dX9_feed_12
  · have hf := q_in c1 hf
    refine lv_iload_n (pc := 4) hx hb dX9_feed_4 rfl (lv_at hl 1 rfl) ?_
    refine lv_bipush (pc := 5) (v := 127) hx hb dX9_feed_5 (by decide) ?_
    refine lv_icmp_le (pc := 7) (tgt := 13) hx hb dX9_feed_7 (by decide) (fun c2 => ?_) (fun c2 => ?_)
    · have hf := q_ip c2 hf
      refine lv_aload_n (pc := 13) hx hb dX9_feed_13 rfl (lv_at hl 0 rfl) ?_
      refine x_get (pc := 14) X E hI inX9 0 rfl rfl 8 (by decide) tw_2_15 rfl dX9_feed_14 ?_
      refine lv_iload_n (pc := 17) hx hb dX9_feed_17 rfl (lv_at hl 1 rfl) ?_
      obtain ⟨t3, e3, hf⟩ := q_ob hf
      refine x_cVt (pc := 18) (st1 := [.int t3.1]) (w2 := (xb G h x_hasImage f_places f_kinds f_weights f_howManyGenerators f_generators f_racks f_howManySeen f_seenFirst f_seenSecond f_seenIs f_seenPlaces f_howManyEvents f_eventWhat f_eventNumber g_places g_kinds g_weights g_howManyGenerators g_generators g_racks g_howManySeen g_seenFirst g_seenSecond g_seenIs g_seenPlaces g_howManyEvents g_eventWhat g_eventNumber n_m0 n_m1 n_m2 n_s0 n_s1 n_s2 v_keys v_asFound v_found v_turns v_places p_keys p_asFound p_found p_turns p_places i_sort i_howOften i_sorts i_moves n_uq n_u u_leasts u_howMany u_known n_wq n_w w_leasts w_howMany w_known t3.2.1 t3.2.2 t_whole t_begins t_ends r_sorts r_numbers r_length)) X E hI (c_X7_add l G (h 26) (h 27) (h 28) (h 29) e3) kv_X9_229 hd_X7_add ⟨rfl, rfl⟩ (by decide) pt_xb_txw_0 pt_xb_txw_0q 0 rfl rfl rfl rfl hl.1 rfl (Nat.le_of_ble_eq_true rfl) dX9_feed_18 ⟨Nat.le_of_ble_eq_true rfl, Nat.le_of_ble_eq_true rfl⟩ rfl (fun H locs hI => ?_)
      refine lv_if_eq (pc := 21) (tgt := 34) hx hb dX9_feed_21 (by decide) (fun c4 => ?_) (fun c4 => ?_)
      · have hf := q_ip c4 hf
        refine lv_bipush (pc := 34) (v := (-4)) hx hb dX9_feed_34 (by decide) ?_
        obtain rfl := Option.some.inj hf
        exact x_iret X hI dX9_feed_36
      · have hf := q_in c4 hf
        refine lv_aload_n (pc := 24) hx hb dX9_feed_24 rfl (lv_at hl 0 rfl) ?_
        refine x_get (pc := 25) X E hI inX9 0 rfl rfl 8 (by decide) tw_2_15 rfl dX9_feed_25 ?_
        refine x_get (pc := 28) X E hI inX7 34 rfl rfl 1 (by decide) tw_1_170 rfl dX9_feed_28 ?_
        refine lv_goto (pc := 31) (tgt := 36) hx hb dX9_feed_31 (by decide) ?_
        obtain rfl := Option.some.inj hf
        exact x_iret X hI dX9_feed_36
    · have hf := q_in c2 hf
      refine lv_bipush (pc := 10) (v := (-2)) hx hb dX9_feed_10 (by decide) ?_
      obtain rfl := Option.some.inj hf
      exact x_iret X hI dX9_feed_12

abbrev rm_X9_doClause : Room := { frames := 5, cells := 0, slots := 0, locals := 133 }
set_option maxHeartbeats 4000000 in
set_option maxRecDepth 100000 in
theorem c_X9_doClause (l : Launch) (G : GX) (h : Nat → Nat) {l1 : Int32} {l2 : Int32} {f_places : Int32} {f_kinds : Int32} {f_weights : Nat → Int32} {f_howManyGenerators : Int32} {f_generators : Nat → Int32} {f_racks : Nat → Int32} {n_m0 : Nat} {n_m1 : Nat} {n_m2 : Nat} {n_s0 : Nat} {n_s1 : Nat} {n_s2 : Nat} {v_keys : Nat → Int32} {v_asFound : Nat → Int32} {v_found : Int32} {v_turns : Int32} {v_places : Int32} {p_keys : Nat → Int32} {p_asFound : Nat → Int32} {p_found : Int32} {p_turns : Int32} {p_places : Int32} {u_known : Int32} {w_known : Int32} {r_sorts : Nat → Int32} {r_numbers : Nat → Int32} {r_length : Int32} {x_hasImage : Int32} {f_howManySeen : Int32} {f_seenFirst : Nat → Int32} {f_seenSecond : Nat → Int32} {f_seenIs : Nat → Int32} {f_seenPlaces : Nat → Int32} {f_howManyEvents : Int32} {f_eventWhat : Nat → Int32} {f_eventNumber : Nat → Int32} {g_places : Int32} {g_kinds : Int32} {g_weights : Nat → Int32} {g_howManyGenerators : Int32} {g_generators : Nat → Int32} {g_racks : Nat → Int32} {g_howManySeen : Int32} {g_seenFirst : Nat → Int32} {g_seenSecond : Nat → Int32} {g_seenIs : Nat → Int32} {g_seenPlaces : Nat → Int32} {g_howManyEvents : Int32} {g_eventWhat : Nat → Int32} {g_eventNumber : Nat → Int32} {i_sort : Nat → Int32} {i_howOften : Nat → Int32} {i_sorts : Int32} {i_moves : Int32} {n_uq : Nat} {n_u : Nat} {u_leasts : Nat → Int32} {u_howMany : Int32} {n_wq : Nat} {n_w : Nat} {w_leasts : Nat → Int32} {w_howMany : Int32} {t_signs : Nat → Int32} {t_length : Int32} {t_whole : Int32} {t_begins : Nat → Int32} {t_ends : Nat → Int32} {wo : va_W} {res : Int32 × Int32 × Int32 × (Nat → Int32) × Int32 × (Nat → Int32) × (Nat → Int32) × Nat × Nat × Nat × Nat × Nat × Nat × (Nat → Int32) × (Nat → Int32) × Int32 × Int32 × Int32 × (Nat → Int32) × (Nat → Int32) × Int32 × Int32 × Int32 × Int32 × Int32 × (Nat → Int32) × (Nat → Int32) × Int32} (hf : f_X9_doClause l1 l2 f_places f_kinds f_weights f_howManyGenerators f_generators f_racks n_m0 n_m1 n_m2 n_s0 n_s1 n_s2 v_keys v_asFound v_found v_turns v_places p_keys p_asFound p_found p_turns p_places u_known w_known r_sorts r_numbers r_length = some res) : MX l yX9_doClause cX9_doClause 3 (some .int) rm_X9_doClause G ((xb G h x_hasImage f_places f_kinds f_weights f_howManyGenerators f_generators f_racks f_howManySeen f_seenFirst f_seenSecond f_seenIs f_seenPlaces f_howManyEvents f_eventWhat f_eventNumber g_places g_kinds g_weights g_howManyGenerators g_generators g_racks g_howManySeen g_seenFirst g_seenSecond g_seenIs g_seenPlaces g_howManyEvents g_eventWhat g_eventNumber n_m0 n_m1 n_m2 n_s0 n_s1 n_s2 v_keys v_asFound v_found v_turns v_places p_keys p_asFound p_found p_turns p_places i_sort i_howOften i_sorts i_moves n_uq n_u u_leasts u_howMany u_known n_wq n_w w_leasts w_howMany w_known t_signs t_length t_whole t_begins t_ends r_sorts r_numbers r_length) ++ wo) [.ref (h 0), .int l1, .int l2] ((xb G h x_hasImage res.2.1 res.2.2.1 res.2.2.2.1 res.2.2.2.2.1 res.2.2.2.2.2.1 res.2.2.2.2.2.2.1 f_howManySeen f_seenFirst f_seenSecond f_seenIs f_seenPlaces f_howManyEvents f_eventWhat f_eventNumber g_places g_kinds g_weights g_howManyGenerators g_generators g_racks g_howManySeen g_seenFirst g_seenSecond g_seenIs g_seenPlaces g_howManyEvents g_eventWhat g_eventNumber res.2.2.2.2.2.2.2.1 res.2.2.2.2.2.2.2.2.1 res.2.2.2.2.2.2.2.2.2.1 res.2.2.2.2.2.2.2.2.2.2.1 res.2.2.2.2.2.2.2.2.2.2.2.1 res.2.2.2.2.2.2.2.2.2.2.2.2.1 res.2.2.2.2.2.2.2.2.2.2.2.2.2.1 res.2.2.2.2.2.2.2.2.2.2.2.2.2.2.1 res.2.2.2.2.2.2.2.2.2.2.2.2.2.2.2.1 res.2.2.2.2.2.2.2.2.2.2.2.2.2.2.2.2.1 res.2.2.2.2.2.2.2.2.2.2.2.2.2.2.2.2.2.1 res.2.2.2.2.2.2.2.2.2.2.2.2.2.2.2.2.2.2.1 res.2.2.2.2.2.2.2.2.2.2.2.2.2.2.2.2.2.2.2.1 res.2.2.2.2.2.2.2.2.2.2.2.2.2.2.2.2.2.2.2.2.1 res.2.2.2.2.2.2.2.2.2.2.2.2.2.2.2.2.2.2.2.2.2.1 res.2.2.2.2.2.2.2.2.2.2.2.2.2.2.2.2.2.2.2.2.2.2.1 i_sort i_howOften i_sorts i_moves n_uq n_u u_leasts u_howMany res.2.2.2.2.2.2.2.2.2.2.2.2.2.2.2.2.2.2.2.2.2.2.2.1 n_wq n_w w_leasts w_howMany res.2.2.2.2.2.2.2.2.2.2.2.2.2.2.2.2.2.2.2.2.2.2.2.2.1 t_signs t_length t_whole t_begins t_ends res.2.2.2.2.2.2.2.2.2.2.2.2.2.2.2.2.2.2.2.2.2.2.2.2.2.1 res.2.2.2.2.2.2.2.2.2.2.2.2.2.2.2.2.2.2.2.2.2.2.2.2.2.2.1 res.2.2.2.2.2.2.2.2.2.2.2.2.2.2.2.2.2.2.2.2.2.2.2.2.2.2.2) ++ wo) (some (.int res.1)) 0 0 := by
  refine MX.of (plainFor_of_name (by decide)) (Nat.le_of_ble_eq_true rfl) ?_
  intro p e s m below meth c A X E hI ls hl
  obtain ⟨hx, hb, hml, hown, hts, hr, hlk⟩ := id X
  have hl : lv_has ls 3 [(0, .ref (h 0)), (1, .int l1), (2, .int l2)] := hl
  unfold f_X9_doClause at hf
  refine lv_iload_n (pc := 0) hx hb dX9_doClause_0 rfl (lv_at hl 1 rfl) ?_
  rcases Decidable.em (l1 = 107) with c1 | c1
  · refine lv_tableIn (pc := 1) (tgt := 74) hx hb dX9_doClause_1 (by rw [c1]; decide) (by rw [c1]; decide) (by rw [c1]; rfl) (by decide) ?_
    have hf := q_ip c1 hf
    refine lv_aload_n (pc := 74) hx hb dX9_doClause_74 rfl (lv_at hl 0 rfl) ?_
    refine lv_iload_n (pc := 75) hx hb dX9_doClause_75 rfl (lv_at hl 2 rfl) ?_
    obtain ⟨t2, e2, hf⟩ := q_ob hf
    refine x_cVs (pc := 76) (st1 := [.int t2.1]) (w1 := ((xb G h x_hasImage f_places t2.2.1 f_weights f_howManyGenerators f_generators f_racks f_howManySeen f_seenFirst f_seenSecond f_seenIs f_seenPlaces f_howManyEvents f_eventWhat f_eventNumber g_places g_kinds g_weights g_howManyGenerators g_generators g_racks g_howManySeen g_seenFirst g_seenSecond g_seenIs g_seenPlaces g_howManyEvents g_eventWhat g_eventNumber n_m0 n_m1 n_m2 n_s0 n_s1 n_s2 v_keys v_asFound v_found v_turns v_places p_keys p_asFound p_found p_turns p_places i_sort i_howOften i_sorts i_moves n_uq n_u u_leasts u_howMany t2.2.2.1 n_wq n_w w_leasts w_howMany t2.2.2.2 t_signs t_length t_whole t_begins t_ends r_sorts r_numbers r_length) ++ wo)) X E hI (c_X9_kinds l G h e2) kv_X9_347 hd_X9_kinds ⟨rfl, rfl⟩ (by decide) 0 rfl rfl rfl rfl hl.1 rfl (Nat.le_of_ble_eq_true rfl) dX9_doClause_76 ⟨Nat.le_of_ble_eq_true rfl, Nat.le_of_ble_eq_true rfl⟩ rfl (fun H locs hI => ?_)
    obtain rfl := Option.some.inj hf
    exact x_iret X hI dX9_doClause_79
  · have hf := q_in c1 hf
    rcases Decidable.em (l1 = 109) with c3 | c3
    · refine lv_tableIn (pc := 1) (tgt := 100) hx hb dX9_doClause_1 (by rw [c3]; decide) (by rw [c3]; decide) (by rw [c3]; rfl) (by decide) ?_
      have hf := q_ip c3 hf
      refine lv_aload_n (pc := 100) hx hb dX9_doClause_100 rfl (lv_at hl 0 rfl) ?_
      refine lv_iload_n (pc := 101) hx hb dX9_doClause_101 rfl (lv_at hl 2 rfl) ?_
      refine lv_iconst (pc := 102) (v := 1) hx hb dX9_doClause_102 (by decide) ?_
      obtain ⟨t4, e4, hf⟩ := q_ob hf
      refine x_cVs (pc := 103) (st1 := [.int t4.1]) (w1 := ((xb G h x_hasImage f_places f_kinds f_weights t4.2.1 t4.2.2.1 f_racks f_howManySeen f_seenFirst f_seenSecond f_seenIs f_seenPlaces f_howManyEvents f_eventWhat f_eventNumber g_places g_kinds g_weights g_howManyGenerators g_generators g_racks g_howManySeen g_seenFirst g_seenSecond g_seenIs g_seenPlaces g_howManyEvents g_eventWhat g_eventNumber t4.2.2.2.1 t4.2.2.2.2.1 t4.2.2.2.2.2.1 t4.2.2.2.2.2.2.1 t4.2.2.2.2.2.2.2.1 t4.2.2.2.2.2.2.2.2.1 t4.2.2.2.2.2.2.2.2.2.1 t4.2.2.2.2.2.2.2.2.2.2.1 t4.2.2.2.2.2.2.2.2.2.2.2.1 t4.2.2.2.2.2.2.2.2.2.2.2.2.1 t4.2.2.2.2.2.2.2.2.2.2.2.2.2.1 t4.2.2.2.2.2.2.2.2.2.2.2.2.2.2.1 t4.2.2.2.2.2.2.2.2.2.2.2.2.2.2.2.1 t4.2.2.2.2.2.2.2.2.2.2.2.2.2.2.2.2.1 t4.2.2.2.2.2.2.2.2.2.2.2.2.2.2.2.2.2.1 t4.2.2.2.2.2.2.2.2.2.2.2.2.2.2.2.2.2.2.1 i_sort i_howOften i_sorts i_moves n_uq n_u u_leasts u_howMany t4.2.2.2.2.2.2.2.2.2.2.2.2.2.2.2.2.2.2.2.1 n_wq n_w w_leasts w_howMany t4.2.2.2.2.2.2.2.2.2.2.2.2.2.2.2.2.2.2.2.2.1 t_signs t_length t_whole t_begins t_ends t4.2.2.2.2.2.2.2.2.2.2.2.2.2.2.2.2.2.2.2.2.2.1 t4.2.2.2.2.2.2.2.2.2.2.2.2.2.2.2.2.2.2.2.2.2.2.1 t4.2.2.2.2.2.2.2.2.2.2.2.2.2.2.2.2.2.2.2.2.2.2.2) ++ wo)) X E hI (c_X9_generator l G h e4) kv_X9_352 hd_X9_generator ⟨rfl, rfl⟩ (by decide) 0 rfl rfl rfl rfl hl.1 rfl (Nat.le_of_ble_eq_true rfl) dX9_doClause_103 ⟨Nat.le_of_ble_eq_true rfl, Nat.le_of_ble_eq_true rfl⟩ rfl (fun H locs hI => ?_)
      obtain rfl := Option.some.inj hf
      exact x_iret X hI dX9_doClause_106
    · have hf := q_in c3 hf
      rcases Decidable.em (l1 = 110) with c5 | c5
      · refine lv_tableIn (pc := 1) (tgt := 68) hx hb dX9_doClause_1 (by rw [c5]; decide) (by rw [c5]; decide) (by rw [c5]; rfl) (by decide) ?_
        have hf := q_ip c5 hf
        refine lv_aload_n (pc := 68) hx hb dX9_doClause_68 rfl (lv_at hl 0 rfl) ?_
        refine lv_iload_n (pc := 69) hx hb dX9_doClause_69 rfl (lv_at hl 2 rfl) ?_
        obtain ⟨t6, e6, hf⟩ := q_ob hf
        refine x_cVs (pc := 70) (st1 := [.int t6.1]) (w1 := ((xb G h x_hasImage t6.2.1 f_kinds f_weights t6.2.2.1 f_generators t6.2.2.2.1 f_howManySeen f_seenFirst f_seenSecond f_seenIs f_seenPlaces f_howManyEvents f_eventWhat f_eventNumber g_places g_kinds g_weights g_howManyGenerators g_generators g_racks g_howManySeen g_seenFirst g_seenSecond g_seenIs g_seenPlaces g_howManyEvents g_eventWhat g_eventNumber n_m0 n_m1 n_m2 n_s0 n_s1 n_s2 t6.2.2.2.2.1 t6.2.2.2.2.2.1 t6.2.2.2.2.2.2.1 t6.2.2.2.2.2.2.2.1 t6.2.2.2.2.2.2.2.2.1 p_keys p_asFound p_found p_turns p_places i_sort i_howOften i_sorts i_moves n_uq n_u u_leasts u_howMany t6.2.2.2.2.2.2.2.2.2.1 n_wq n_w w_leasts w_howMany t6.2.2.2.2.2.2.2.2.2.2 t_signs t_length t_whole t_begins t_ends r_sorts r_numbers r_length) ++ wo)) X E hI (c_X9_places l G h e6) kv_X9_345 hd_X9_places ⟨rfl, rfl⟩ (by decide) 0 rfl rfl rfl rfl hl.1 rfl (Nat.le_of_ble_eq_true rfl) dX9_doClause_70 ⟨Nat.le_of_ble_eq_true rfl, Nat.le_of_ble_eq_true rfl⟩ rfl (fun H locs hI => ?_)
        obtain rfl := Option.some.inj hf
        exact x_iret X hI dX9_doClause_73
      · have hf := q_in c5 hf
        rcases Decidable.em (l1 = 116) with c7 | c7
        · refine lv_tableIn (pc := 1) (tgt := 93) hx hb dX9_doClause_1 (by rw [c7]; decide) (by rw [c7]; decide) (by rw [c7]; rfl) (by decide) ?_
          have hf := q_ip c7 hf
          refine lv_aload_n (pc := 93) hx hb dX9_doClause_93 rfl (lv_at hl 0 rfl) ?_
          refine lv_iload_n (pc := 94) hx hb dX9_doClause_94 rfl (lv_at hl 2 rfl) ?_
          refine lv_iconst (pc := 95) (v := 0) hx hb dX9_doClause_95 (by decide) ?_
          obtain ⟨t8, e8, hf⟩ := q_ob hf
          refine x_cVs (pc := 96) (st1 := [.int t8.1]) (w1 := ((xb G h x_hasImage f_places f_kinds f_weights t8.2.1 t8.2.2.1 f_racks f_howManySeen f_seenFirst f_seenSecond f_seenIs f_seenPlaces f_howManyEvents f_eventWhat f_eventNumber g_places g_kinds g_weights g_howManyGenerators g_generators g_racks g_howManySeen g_seenFirst g_seenSecond g_seenIs g_seenPlaces g_howManyEvents g_eventWhat g_eventNumber t8.2.2.2.1 t8.2.2.2.2.1 t8.2.2.2.2.2.1 t8.2.2.2.2.2.2.1 t8.2.2.2.2.2.2.2.1 t8.2.2.2.2.2.2.2.2.1 t8.2.2.2.2.2.2.2.2.2.1 t8.2.2.2.2.2.2.2.2.2.2.1 t8.2.2.2.2.2.2.2.2.2.2.2.1 t8.2.2.2.2.2.2.2.2.2.2.2.2.1 t8.2.2.2.2.2.2.2.2.2.2.2.2.2.1 t8.2.2.2.2.2.2.2.2.2.2.2.2.2.2.1 t8.2.2.2.2.2.2.2.2.2.2.2.2.2.2.2.1 t8.2.2.2.2.2.2.2.2.2.2.2.2.2.2.2.2.1 t8.2.2.2.2.2.2.2.2.2.2.2.2.2.2.2.2.2.1 t8.2.2.2.2.2.2.2.2.2.2.2.2.2.2.2.2.2.2.1 i_sort i_howOften i_sorts i_moves n_uq n_u u_leasts u_howMany t8.2.2.2.2.2.2.2.2.2.2.2.2.2.2.2.2.2.2.2.1 n_wq n_w w_leasts w_howMany t8.2.2.2.2.2.2.2.2.2.2.2.2.2.2.2.2.2.2.2.2.1 t_signs t_length t_whole t_begins t_ends t8.2.2.2.2.2.2.2.2.2.2.2.2.2.2.2.2.2.2.2.2.2.1 t8.2.2.2.2.2.2.2.2.2.2.2.2.2.2.2.2.2.2.2.2.2.2.1 t8.2.2.2.2.2.2.2.2.2.2.2.2.2.2.2.2.2.2.2.2.2.2.2) ++ wo)) X E hI (c_X9_generator l G h e8) kv_X9_352 hd_X9_generator ⟨rfl, rfl⟩ (by decide) 0 rfl rfl rfl rfl hl.1 rfl (Nat.le_of_ble_eq_true rfl) dX9_doClause_96 ⟨Nat.le_of_ble_eq_true rfl, Nat.le_of_ble_eq_true rfl⟩ rfl (fun H locs hI => ?_)
          obtain rfl := Option.some.inj hf
          exact x_iret X hI dX9_doClause_99
        · have hf := q_in c7 hf
          rcases Decidable.em (l1 = 119) with c9 | c9
          · refine lv_tableIn (pc := 1) (tgt := 80) hx hb dX9_doClause_1 (by rw [c9]; decide) (by rw [c9]; decide) (by rw [c9]; rfl) (by decide) ?_
            have hf := q_ip c9 hf
            refine lv_aload_n (pc := 80) hx hb dX9_doClause_80 rfl (lv_at hl 0 rfl) ?_
            refine lv_iload_n (pc := 81) hx hb dX9_doClause_81 rfl (lv_at hl 2 rfl) ?_
            refine lv_bipush (pc := 82) (v := 10) hx hb dX9_doClause_82 (by decide) ?_
            obtain ⟨t10, e10, hf⟩ := q_ob hf
            refine x_idiv (pc := 84) X e10 dX9_doClause_84 ?_
            refine lv_iload_n (pc := 85) hx hb dX9_doClause_85 rfl (lv_at hl 2 rfl) ?_
            refine lv_bipush (pc := 86) (v := 10) hx hb dX9_doClause_86 (by decide) ?_
            obtain ⟨t11, e11, hf⟩ := q_ob hf
            refine x_irem (pc := 88) X e11 dX9_doClause_88 ?_
            obtain ⟨t12, e12, hf⟩ := q_ob hf
            refine x_cVs (pc := 89) (st1 := [.int t12.1]) (w1 := ((xb G h x_hasImage f_places f_kinds t12.2 f_howManyGenerators f_generators f_racks f_howManySeen f_seenFirst f_seenSecond f_seenIs f_seenPlaces f_howManyEvents f_eventWhat f_eventNumber g_places g_kinds g_weights g_howManyGenerators g_generators g_racks g_howManySeen g_seenFirst g_seenSecond g_seenIs g_seenPlaces g_howManyEvents g_eventWhat g_eventNumber n_m0 n_m1 n_m2 n_s0 n_s1 n_s2 v_keys v_asFound v_found v_turns v_places p_keys p_asFound p_found p_turns p_places i_sort i_howOften i_sorts i_moves n_uq n_u u_leasts u_howMany u_known n_wq n_w w_leasts w_howMany w_known t_signs t_length t_whole t_begins t_ends r_sorts r_numbers r_length) ++ wo)) X E hI (c_X9_weight l G h e12) kv_X9_349 hd_X9_weight ⟨rfl, rfl⟩ (by decide) 0 rfl rfl rfl rfl hl.1 rfl (Nat.le_of_ble_eq_true rfl) dX9_doClause_89 ⟨Nat.le_of_ble_eq_true rfl, Nat.le_of_ble_eq_true rfl⟩ rfl (fun H locs hI => ?_)
            obtain rfl := Option.some.inj hf
            exact x_iret X hI dX9_doClause_92
          · have hf := q_in c9 hf
            rcases Decidable.em (l1 = 108) with c13 | c13
            · refine lv_tableIn (pc := 1) (tgt := 107) hx hb dX9_doClause_1 (by rw [c13]; decide) (by rw [c13]; decide) (by rw [c13]; rfl) (by decide) ?_
              refine lv_iconst (pc := 107) (v := (-1)) hx hb dX9_doClause_107 (by decide) ?_
              obtain rfl := Option.some.inj hf
              exact x_iret X hI dX9_doClause_108
            · rcases Decidable.em (l1 = 111) with c14 | c14
              · refine lv_tableIn (pc := 1) (tgt := 107) hx hb dX9_doClause_1 (by rw [c14]; decide) (by rw [c14]; decide) (by rw [c14]; rfl) (by decide) ?_
                refine lv_iconst (pc := 107) (v := (-1)) hx hb dX9_doClause_107 (by decide) ?_
                obtain rfl := Option.some.inj hf
                exact x_iret X hI dX9_doClause_108
              · rcases Decidable.em (l1 = 112) with c15 | c15
                · refine lv_tableIn (pc := 1) (tgt := 107) hx hb dX9_doClause_1 (by rw [c15]; decide) (by rw [c15]; decide) (by rw [c15]; rfl) (by decide) ?_
                  refine lv_iconst (pc := 107) (v := (-1)) hx hb dX9_doClause_107 (by decide) ?_
                  obtain rfl := Option.some.inj hf
                  exact x_iret X hI dX9_doClause_108
                · rcases Decidable.em (l1 = 113) with c16 | c16
                  · refine lv_tableIn (pc := 1) (tgt := 107) hx hb dX9_doClause_1 (by rw [c16]; decide) (by rw [c16]; decide) (by rw [c16]; rfl) (by decide) ?_
                    refine lv_iconst (pc := 107) (v := (-1)) hx hb dX9_doClause_107 (by decide) ?_
                    obtain rfl := Option.some.inj hf
                    exact x_iret X hI dX9_doClause_108
                  · rcases Decidable.em (l1 = 114) with c17 | c17
                    · refine lv_tableIn (pc := 1) (tgt := 107) hx hb dX9_doClause_1 (by rw [c17]; decide) (by rw [c17]; decide) (by rw [c17]; rfl) (by decide) ?_
                      refine lv_iconst (pc := 107) (v := (-1)) hx hb dX9_doClause_107 (by decide) ?_
                      obtain rfl := Option.some.inj hf
                      exact x_iret X hI dX9_doClause_108
                    · rcases Decidable.em (l1 = 115) with c18 | c18
                      · refine lv_tableIn (pc := 1) (tgt := 107) hx hb dX9_doClause_1 (by rw [c18]; decide) (by rw [c18]; decide) (by rw [c18]; rfl) (by decide) ?_
                        refine lv_iconst (pc := 107) (v := (-1)) hx hb dX9_doClause_107 (by decide) ?_
                        obtain rfl := Option.some.inj hf
                        exact x_iret X hI dX9_doClause_108
                      · rcases Decidable.em (l1 = 117) with c19 | c19
                        · refine lv_tableIn (pc := 1) (tgt := 107) hx hb dX9_doClause_1 (by rw [c19]; decide) (by rw [c19]; decide) (by rw [c19]; rfl) (by decide) ?_
                          refine lv_iconst (pc := 107) (v := (-1)) hx hb dX9_doClause_107 (by decide) ?_
                          obtain rfl := Option.some.inj hf
                          exact x_iret X hI dX9_doClause_108
                        · rcases Decidable.em (l1 = 118) with c20 | c20
                          · refine lv_tableIn (pc := 1) (tgt := 107) hx hb dX9_doClause_1 (by rw [c20]; decide) (by rw [c20]; decide) (by rw [c20]; rfl) (by decide) ?_
                            refine lv_iconst (pc := 107) (v := (-1)) hx hb dX9_doClause_107 (by decide) ?_
                            obtain rfl := Option.some.inj hf
                            exact x_iret X hI dX9_doClause_108
                          · refine lv_tableOut (pc := 1) (tgt := 107) hx hb dX9_doClause_1 (q_out_107_119 c1 c13 c3 c5 c14 c15 c16 c17 c18 c7 c19 c20 c9) (by decide) ?_
                            refine lv_iconst (pc := 107) (v := (-1)) hx hb dX9_doClause_107 (by decide) ?_
                            obtain rfl := Option.some.inj hf
                            exact x_iret X hI dX9_doClause_108

abbrev rm_X9_read : Room := { frames := 6, cells := 0, slots := 0, locals := 155 }
set_option maxHeartbeats 4000000 in
set_option maxRecDepth 100000 in
theorem k_X9_read_L41 {p : Program} {l : Launch} {e : Env} {s : State} {m : MethodId} {args : Array Value} {below : List Frame} {meth : Method} {c : Code} {A : Nat → Prop} {G : GX} {h : Nat → Nat} {x_hasImage : Int32} {f_howManySeen : Int32} {f_seenFirst : Nat → Int32} {f_seenSecond : Nat → Int32} {f_seenIs : Nat → Int32} {f_seenPlaces : Nat → Int32} {f_howManyEvents : Int32} {f_eventWhat : Nat → Int32} {f_eventNumber : Nat → Int32} {g_places : Int32} {g_kinds : Int32} {g_weights : Nat → Int32} {g_howManyGenerators : Int32} {g_generators : Nat → Int32} {g_racks : Nat → Int32} {g_howManySeen : Int32} {g_seenFirst : Nat → Int32} {g_seenSecond : Nat → Int32} {g_seenIs : Nat → Int32} {g_seenPlaces : Nat → Int32} {g_howManyEvents : Int32} {g_eventWhat : Nat → Int32} {g_eventNumber : Nat → Int32} {i_sort : Nat → Int32} {i_howOften : Nat → Int32} {i_sorts : Int32} {i_moves : Int32} {n_uq : Nat} {n_u : Nat} {u_leasts : Nat → Int32} {u_howMany : Int32} {n_wq : Nat} {n_w : Nat} {w_leasts : Nat → Int32} {w_howMany : Int32} {t_signs : Nat → Int32} {t_length : Int32} {t_whole : Int32} {t_begins : Nat → Int32} {t_ends : Nat → Int32} {wo : va_W} {K : Int32 → Int32 → Int32 → Int32 → (Nat → Int32) → Int32 → (Nat → Int32) → (Nat → Int32) → Nat → Nat → Nat → Nat → Nat → Nat → (Nat → Int32) → (Nat → Int32) → Int32 → Int32 → Int32 → (Nat → Int32) → (Nat → Int32) → Int32 → Int32 → Int32 → Int32 → Int32 → (Nat → Int32) → (Nat → Int32) → Int32 → Option (Int32 × Int32 × Int32 × (Nat → Int32) × Int32 × (Nat → Int32) × (Nat → Int32) × Nat × Nat × Nat × Nat × Nat × Nat × (Nat → Int32) × (Nat → Int32) × Int32 × Int32 × Int32 × (Nat → Int32) × (Nat → Int32) × Int32 × Int32 × Int32 × Int32 × Int32 × Int32 × Int32 × (Nat → Int32) × (Nat → Int32) × (Nat → Int32) × (Nat → Int32) × Int32)} {res : Int32 × Int32 × Int32 × (Nat → Int32) × Int32 × (Nat → Int32) × (Nat → Int32) × Nat × Nat × Nat × Nat × Nat × Nat × (Nat → Int32) × (Nat → Int32) × Int32 × Int32 × Int32 × (Nat → Int32) × (Nat → Int32) × Int32 × Int32 × Int32 × Int32 × Int32 × Int32 × Int32 × (Nat → Int32) × (Nat → Int32) × (Nat → Int32) × (Nat → Int32) × Int32} (X : CX RX9 cX9_read 4 (some .int) p s m args meth c) (E : EX G A s)
    (hK : ∀ (l2 : Int32) (l3 : Int32) (f_places : Int32) (f_kinds : Int32) (f_weights : (Nat → Int32)) (f_howManyGenerators : Int32) (f_generators : (Nat → Int32)) (f_racks : (Nat → Int32)) (n_m0 : Nat) (n_m1 : Nat) (n_m2 : Nat) (n_s0 : Nat) (n_s1 : Nat) (n_s2 : Nat) (v_keys : (Nat → Int32)) (v_asFound : (Nat → Int32)) (v_found : Int32) (v_turns : Int32) (v_places : Int32) (p_keys : (Nat → Int32)) (p_asFound : (Nat → Int32)) (p_found : Int32) (p_turns : Int32) (p_places : Int32) (u_known : Int32) (w_known : Int32) (r_sorts : (Nat → Int32)) (r_numbers : (Nat → Int32)) (r_length : Int32) (H : Heap) (locs : List Loc) (ls : Array Slot), IN A G ((xb G h x_hasImage f_places f_kinds f_weights f_howManyGenerators f_generators f_racks f_howManySeen f_seenFirst f_seenSecond f_seenIs f_seenPlaces f_howManyEvents f_eventWhat f_eventNumber g_places g_kinds g_weights g_howManyGenerators g_generators g_racks g_howManySeen g_seenFirst g_seenSecond g_seenIs g_seenPlaces g_howManyEvents g_eventWhat g_eventNumber n_m0 n_m1 n_m2 n_s0 n_s1 n_s2 v_keys v_asFound v_found v_turns v_places p_keys p_asFound p_found p_turns p_places i_sort i_howOften i_sorts i_moves n_uq n_u u_leasts u_howMany u_known n_wq n_w w_leasts w_howMany w_known t_signs t_length t_whole t_begins t_ends r_sorts r_numbers r_length) ++ wo) s H locs → lv_has ls 4 [(0, .ref (h 0)), (2, .int l2), (3, .int l3)] → K l2 l3 f_places f_kinds f_weights f_howManyGenerators f_generators f_racks n_m0 n_m1 n_m2 n_s0 n_s1 n_s2 v_keys v_asFound v_found v_turns v_places p_keys p_asFound p_found p_turns p_places u_known w_known r_sorts r_numbers r_length = some res → W p l e rm_X9_read s m args below meth c H locs 0 0 (MQ below (QX G A ((xb G h x_hasImage res.2.1 res.2.2.1 res.2.2.2.1 res.2.2.2.2.1 res.2.2.2.2.2.1 res.2.2.2.2.2.2.1 f_howManySeen f_seenFirst f_seenSecond f_seenIs f_seenPlaces f_howManyEvents f_eventWhat f_eventNumber g_places g_kinds g_weights g_howManyGenerators g_generators g_racks g_howManySeen g_seenFirst g_seenSecond g_seenIs g_seenPlaces g_howManyEvents g_eventWhat g_eventNumber res.2.2.2.2.2.2.2.1 res.2.2.2.2.2.2.2.2.1 res.2.2.2.2.2.2.2.2.2.1 res.2.2.2.2.2.2.2.2.2.2.1 res.2.2.2.2.2.2.2.2.2.2.2.1 res.2.2.2.2.2.2.2.2.2.2.2.2.1 res.2.2.2.2.2.2.2.2.2.2.2.2.2.1 res.2.2.2.2.2.2.2.2.2.2.2.2.2.2.1 res.2.2.2.2.2.2.2.2.2.2.2.2.2.2.2.1 res.2.2.2.2.2.2.2.2.2.2.2.2.2.2.2.2.1 res.2.2.2.2.2.2.2.2.2.2.2.2.2.2.2.2.2.1 res.2.2.2.2.2.2.2.2.2.2.2.2.2.2.2.2.2.2.1 res.2.2.2.2.2.2.2.2.2.2.2.2.2.2.2.2.2.2.2.1 res.2.2.2.2.2.2.2.2.2.2.2.2.2.2.2.2.2.2.2.2.1 res.2.2.2.2.2.2.2.2.2.2.2.2.2.2.2.2.2.2.2.2.2.1 res.2.2.2.2.2.2.2.2.2.2.2.2.2.2.2.2.2.2.2.2.2.2.1 i_sort i_howOften i_sorts i_moves n_uq n_u u_leasts u_howMany res.2.2.2.2.2.2.2.2.2.2.2.2.2.2.2.2.2.2.2.2.2.2.2.1 n_wq n_w w_leasts w_howMany res.2.2.2.2.2.2.2.2.2.2.2.2.2.2.2.2.2.2.2.2.2.2.2.2.1 t_signs res.2.2.2.2.2.2.2.2.2.2.2.2.2.2.2.2.2.2.2.2.2.2.2.2.2.1 res.2.2.2.2.2.2.2.2.2.2.2.2.2.2.2.2.2.2.2.2.2.2.2.2.2.2.1 res.2.2.2.2.2.2.2.2.2.2.2.2.2.2.2.2.2.2.2.2.2.2.2.2.2.2.2.1 res.2.2.2.2.2.2.2.2.2.2.2.2.2.2.2.2.2.2.2.2.2.2.2.2.2.2.2.2.1 res.2.2.2.2.2.2.2.2.2.2.2.2.2.2.2.2.2.2.2.2.2.2.2.2.2.2.2.2.2.1 res.2.2.2.2.2.2.2.2.2.2.2.2.2.2.2.2.2.2.2.2.2.2.2.2.2.2.2.2.2.2.1 res.2.2.2.2.2.2.2.2.2.2.2.2.2.2.2.2.2.2.2.2.2.2.2.2.2.2.2.2.2.2.2) ++ wo) (some (.int res.1))) args s 0 0 A) (F0 m 84 ls [])) :
    ∀ {k : Nat} {l2 : Int32} {l3 : Int32} {f_places : Int32} {f_kinds : Int32} {f_weights : (Nat → Int32)} {f_howManyGenerators : Int32} {f_generators : (Nat → Int32)} {f_racks : (Nat → Int32)} {n_m0 : Nat} {n_m1 : Nat} {n_m2 : Nat} {n_s0 : Nat} {n_s1 : Nat} {n_s2 : Nat} {v_keys : (Nat → Int32)} {v_asFound : (Nat → Int32)} {v_found : Int32} {v_turns : Int32} {v_places : Int32} {p_keys : (Nat → Int32)} {p_asFound : (Nat → Int32)} {p_found : Int32} {p_turns : Int32} {p_places : Int32} {u_known : Int32} {w_known : Int32} {r_sorts : (Nat → Int32)} {r_numbers : (Nat → Int32)} {r_length : Int32} {H : Heap} {locs : List Loc} {ls : Array Slot}, IN A G ((xb G h x_hasImage f_places f_kinds f_weights f_howManyGenerators f_generators f_racks f_howManySeen f_seenFirst f_seenSecond f_seenIs f_seenPlaces f_howManyEvents f_eventWhat f_eventNumber g_places g_kinds g_weights g_howManyGenerators g_generators g_racks g_howManySeen g_seenFirst g_seenSecond g_seenIs g_seenPlaces g_howManyEvents g_eventWhat g_eventNumber n_m0 n_m1 n_m2 n_s0 n_s1 n_s2 v_keys v_asFound v_found v_turns v_places p_keys p_asFound p_found p_turns p_places i_sort i_howOften i_sorts i_moves n_uq n_u u_leasts u_howMany u_known n_wq n_w w_leasts w_howMany w_known t_signs t_length t_whole t_begins t_ends r_sorts r_numbers r_length) ++ wo) s H locs → lv_has ls 4 [(0, .ref (h 0)), (2, .int l2), (3, .int l3)] → f_X9_read_L41 t_signs t_length t_whole t_begins t_ends K k l2 l3 f_places f_kinds f_weights f_howManyGenerators f_generators f_racks n_m0 n_m1 n_m2 n_s0 n_s1 n_s2 v_keys v_asFound v_found v_turns v_places p_keys p_asFound p_found p_turns p_places u_known w_known r_sorts r_numbers r_length = some res → W p l e rm_X9_read s m args below meth c H locs 0 0 (MQ below (QX G A ((xb G h x_hasImage res.2.1 res.2.2.1 res.2.2.2.1 res.2.2.2.2.1 res.2.2.2.2.2.1 res.2.2.2.2.2.2.1 f_howManySeen f_seenFirst f_seenSecond f_seenIs f_seenPlaces f_howManyEvents f_eventWhat f_eventNumber g_places g_kinds g_weights g_howManyGenerators g_generators g_racks g_howManySeen g_seenFirst g_seenSecond g_seenIs g_seenPlaces g_howManyEvents g_eventWhat g_eventNumber res.2.2.2.2.2.2.2.1 res.2.2.2.2.2.2.2.2.1 res.2.2.2.2.2.2.2.2.2.1 res.2.2.2.2.2.2.2.2.2.2.1 res.2.2.2.2.2.2.2.2.2.2.2.1 res.2.2.2.2.2.2.2.2.2.2.2.2.1 res.2.2.2.2.2.2.2.2.2.2.2.2.2.1 res.2.2.2.2.2.2.2.2.2.2.2.2.2.2.1 res.2.2.2.2.2.2.2.2.2.2.2.2.2.2.2.1 res.2.2.2.2.2.2.2.2.2.2.2.2.2.2.2.2.1 res.2.2.2.2.2.2.2.2.2.2.2.2.2.2.2.2.2.1 res.2.2.2.2.2.2.2.2.2.2.2.2.2.2.2.2.2.2.1 res.2.2.2.2.2.2.2.2.2.2.2.2.2.2.2.2.2.2.2.1 res.2.2.2.2.2.2.2.2.2.2.2.2.2.2.2.2.2.2.2.2.1 res.2.2.2.2.2.2.2.2.2.2.2.2.2.2.2.2.2.2.2.2.2.1 res.2.2.2.2.2.2.2.2.2.2.2.2.2.2.2.2.2.2.2.2.2.2.1 i_sort i_howOften i_sorts i_moves n_uq n_u u_leasts u_howMany res.2.2.2.2.2.2.2.2.2.2.2.2.2.2.2.2.2.2.2.2.2.2.2.1 n_wq n_w w_leasts w_howMany res.2.2.2.2.2.2.2.2.2.2.2.2.2.2.2.2.2.2.2.2.2.2.2.2.1 t_signs res.2.2.2.2.2.2.2.2.2.2.2.2.2.2.2.2.2.2.2.2.2.2.2.2.2.1 res.2.2.2.2.2.2.2.2.2.2.2.2.2.2.2.2.2.2.2.2.2.2.2.2.2.2.1 res.2.2.2.2.2.2.2.2.2.2.2.2.2.2.2.2.2.2.2.2.2.2.2.2.2.2.2.1 res.2.2.2.2.2.2.2.2.2.2.2.2.2.2.2.2.2.2.2.2.2.2.2.2.2.2.2.2.1 res.2.2.2.2.2.2.2.2.2.2.2.2.2.2.2.2.2.2.2.2.2.2.2.2.2.2.2.2.2.1 res.2.2.2.2.2.2.2.2.2.2.2.2.2.2.2.2.2.2.2.2.2.2.2.2.2.2.2.2.2.2.1 res.2.2.2.2.2.2.2.2.2.2.2.2.2.2.2.2.2.2.2.2.2.2.2.2.2.2.2.2.2.2.2) ++ wo) (some (.int res.1))) args s 0 0 A) (F0 m 41 ls []) := by
  obtain ⟨hx, hb, hml, hown, hts, hr, hlk⟩ := id X
  intro k
  induction k with
  | zero => intro l2 l3 f_places f_kinds f_weights f_howManyGenerators f_generators f_racks n_m0 n_m1 n_m2 n_s0 n_s1 n_s2 v_keys v_asFound v_found v_turns v_places p_keys p_asFound p_found p_turns p_places u_known w_known r_sorts r_numbers r_length H locs ls hI hl hf; exact nomatch (show none = some res from hf)
  | succ k ih =>
    intro l2 l3 f_places f_kinds f_weights f_howManyGenerators f_generators f_racks n_m0 n_m1 n_m2 n_s0 n_s1 n_s2 v_keys v_asFound v_found v_turns v_places p_keys p_asFound p_found p_turns p_places u_known w_known r_sorts r_numbers r_length H locs ls hI hl hf
    rw [f_X9_read_L41] at hf
    refine lv_iload_n (pc := 41) hx hb dX9_read_41 rfl (lv_at hl 2 rfl) ?_
    refine lv_aload_n (pc := 42) hx hb dX9_read_42 rfl (lv_at hl 0 rfl) ?_
    refine x_get (pc := 43) X E hI inX9 0 rfl rfl 8 (by decide) tw_2_15 rfl dX9_read_43 ?_
    refine x_get (pc := 46) X E hI inX7 34 rfl rfl 2 (by decide) tw_1_172 rfl dX9_read_46 ?_
    refine lv_icmp_ge (pc := 49) (tgt := 84) hx hb dX9_read_49 (by decide) (fun c1 => ?_) (fun c1 => ?_)
    · have hf := q_ip c1 hf
      exact hK _ _ _ _ _ _ _ _ _ _ _ _ _ _ _ _ _ _ _ _ _ _ _ _ _ _ _ _ _ _ _ _ hI (lv_sub hl [0, 1, 2] rfl) hf
    · have hf := q_in c1 hf
      refine lv_aload_n (pc := 52) hx hb dX9_read_52 rfl (lv_at hl 0 rfl) ?_
      refine lv_aload_n (pc := 53) hx hb dX9_read_53 rfl (lv_at hl 0 rfl) ?_
      refine x_get (pc := 54) X E hI inX9 0 rfl rfl 8 (by decide) tw_2_15 rfl dX9_read_54 ?_
      refine lv_iload_n (pc := 57) hx hb dX9_read_57 rfl (lv_at hl 2 rfl) ?_
      obtain ⟨t2, e2, hf⟩ := q_ob hf
      refine x_cVt (pc := 58) (st1 := [.int t2, .ref (h 0)]) (w2 := (xb G h x_hasImage f_places f_kinds f_weights f_howManyGenerators f_generators f_racks f_howManySeen f_seenFirst f_seenSecond f_seenIs f_seenPlaces f_howManyEvents f_eventWhat f_eventNumber g_places g_kinds g_weights g_howManyGenerators g_generators g_racks g_howManySeen g_seenFirst g_seenSecond g_seenIs g_seenPlaces g_howManyEvents g_eventWhat g_eventNumber n_m0 n_m1 n_m2 n_s0 n_s1 n_s2 v_keys v_asFound v_found v_turns v_places p_keys p_asFound p_found p_turns p_places i_sort i_howOften i_sorts i_moves n_uq n_u u_leasts u_howMany u_known n_wq n_w w_leasts w_howMany w_known t_signs t_length t_whole t_begins t_ends r_sorts r_numbers r_length)) X E hI (c_X7_letterOf l G (h 26) (h 27) (h 28) (h 29) e2) kv_X9_245 hd_X7_letterOf ⟨rfl, rfl⟩ (by decide) pt_xb_txw_0 pt_xb_txw_0q 0 rfl rfl rfl rfl hl.1 rfl (Nat.le_of_ble_eq_true rfl) dX9_read_58 ⟨Nat.le_of_ble_eq_true rfl, Nat.le_of_ble_eq_true rfl⟩ rfl (fun H locs hI => ?_)
      refine lv_aload_n (pc := 61) hx hb dX9_read_61 rfl (lv_at hl 0 rfl) ?_
      refine x_get (pc := 62) X E hI inX9 0 rfl rfl 8 (by decide) tw_2_15 rfl dX9_read_62 ?_
      refine lv_iload_n (pc := 65) hx hb dX9_read_65 rfl (lv_at hl 2 rfl) ?_
      obtain ⟨t3, e3, hf⟩ := q_ob hf
      refine x_cVt (pc := 66) (st1 := [.int t3, .int t2, .ref (h 0)]) (w2 := (xb G h x_hasImage f_places f_kinds f_weights f_howManyGenerators f_generators f_racks f_howManySeen f_seenFirst f_seenSecond f_seenIs f_seenPlaces f_howManyEvents f_eventWhat f_eventNumber g_places g_kinds g_weights g_howManyGenerators g_generators g_racks g_howManySeen g_seenFirst g_seenSecond g_seenIs g_seenPlaces g_howManyEvents g_eventWhat g_eventNumber n_m0 n_m1 n_m2 n_s0 n_s1 n_s2 v_keys v_asFound v_found v_turns v_places p_keys p_asFound p_found p_turns p_places i_sort i_howOften i_sorts i_moves n_uq n_u u_leasts u_howMany u_known n_wq n_w w_leasts w_howMany w_known t_signs t_length t_whole t_begins t_ends r_sorts r_numbers r_length)) X E hI (c_X7_numberOf l G (h 26) (h 27) (h 28) (h 29) e3) kv_X9_248 hd_X7_numberOf ⟨rfl, rfl⟩ (by decide) pt_xb_txw_0 pt_xb_txw_0q 0 rfl rfl rfl rfl hl.1 rfl (Nat.le_of_ble_eq_true rfl) dX9_read_66 ⟨Nat.le_of_ble_eq_true rfl, Nat.le_of_ble_eq_true rfl⟩ rfl (fun H locs hI => ?_)
      obtain ⟨t4, e4, hf⟩ := q_ob hf
      refine x_cVs (pc := 69) (st1 := [.int t4.1]) (w1 := ((xb G h x_hasImage t4.2.1 t4.2.2.1 t4.2.2.2.1 t4.2.2.2.2.1 t4.2.2.2.2.2.1 t4.2.2.2.2.2.2.1 f_howManySeen f_seenFirst f_seenSecond f_seenIs f_seenPlaces f_howManyEvents f_eventWhat f_eventNumber g_places g_kinds g_weights g_howManyGenerators g_generators g_racks g_howManySeen g_seenFirst g_seenSecond g_seenIs g_seenPlaces g_howManyEvents g_eventWhat g_eventNumber t4.2.2.2.2.2.2.2.1 t4.2.2.2.2.2.2.2.2.1 t4.2.2.2.2.2.2.2.2.2.1 t4.2.2.2.2.2.2.2.2.2.2.1 t4.2.2.2.2.2.2.2.2.2.2.2.1 t4.2.2.2.2.2.2.2.2.2.2.2.2.1 t4.2.2.2.2.2.2.2.2.2.2.2.2.2.1 t4.2.2.2.2.2.2.2.2.2.2.2.2.2.2.1 t4.2.2.2.2.2.2.2.2.2.2.2.2.2.2.2.1 t4.2.2.2.2.2.2.2.2.2.2.2.2.2.2.2.2.1 t4.2.2.2.2.2.2.2.2.2.2.2.2.2.2.2.2.2.1 t4.2.2.2.2.2.2.2.2.2.2.2.2.2.2.2.2.2.2.1 t4.2.2.2.2.2.2.2.2.2.2.2.2.2.2.2.2.2.2.2.1 t4.2.2.2.2.2.2.2.2.2.2.2.2.2.2.2.2.2.2.2.2.1 t4.2.2.2.2.2.2.2.2.2.2.2.2.2.2.2.2.2.2.2.2.2.1 t4.2.2.2.2.2.2.2.2.2.2.2.2.2.2.2.2.2.2.2.2.2.2.1 i_sort i_howOften i_sorts i_moves n_uq n_u u_leasts u_howMany t4.2.2.2.2.2.2.2.2.2.2.2.2.2.2.2.2.2.2.2.2.2.2.2.1 n_wq n_w w_leasts w_howMany t4.2.2.2.2.2.2.2.2.2.2.2.2.2.2.2.2.2.2.2.2.2.2.2.2.1 t_signs t_length t_whole t_begins t_ends t4.2.2.2.2.2.2.2.2.2.2.2.2.2.2.2.2.2.2.2.2.2.2.2.2.2.1 t4.2.2.2.2.2.2.2.2.2.2.2.2.2.2.2.2.2.2.2.2.2.2.2.2.2.2.1 t4.2.2.2.2.2.2.2.2.2.2.2.2.2.2.2.2.2.2.2.2.2.2.2.2.2.2.2) ++ wo)) X E hI (c_X9_doClause l G h e4) kv_X9_251 hd_X9_doClause ⟨rfl, rfl⟩ (by decide) 0 rfl rfl rfl rfl hl.1 rfl (Nat.le_of_ble_eq_true rfl) dX9_read_69 ⟨Nat.le_of_ble_eq_true rfl, Nat.le_of_ble_eq_true rfl⟩ rfl (fun H locs hI => ?_)
      refine lv_if_lt (pc := 72) (tgt := 78) hx hb dX9_read_72 (by decide) (fun c5 => ?_) (fun c5 => ?_)
      · have hf := q_ip c5 hf
        refine lv_iinc (pc := 78) (v := l3 + 1) (lv' := [(3, .int (l3 + 1)), (0, .ref (h 0)), (2, .int l2)]) hx hb dX9_read_78 hl (k := 2) rfl rfl (by decide) rfl (fun ls hl => ?_)
        refine lv_goto (pc := 81) (tgt := 41) hx hb dX9_read_81 (by decide) ?_
        exact ih hI (lv_sub hl [1, 2, 0] rfl) hf
      · have hf := q_in c5 hf
        refine lv_iinc (pc := 75) (v := l2 + 1) (lv' := [(2, .int (l2 + 1)), (0, .ref (h 0)), (3, .int l3)]) hx hb dX9_read_75 hl (k := 1) rfl rfl (by decide) rfl (fun ls hl => ?_)
        refine lv_iinc (pc := 78) (v := l3 + 1) (lv' := [(3, .int (l3 + 1)), (2, .int (l2 + 1)), (0, .ref (h 0))]) hx hb dX9_read_78 hl (k := 2) rfl rfl (by decide) rfl (fun ls hl => ?_)
        refine lv_goto (pc := 81) (tgt := 41) hx hb dX9_read_81 (by decide) ?_
        exact ih hI (lv_sub hl [2, 1, 0] rfl) hf

set_option maxHeartbeats 4000000 in
set_option maxRecDepth 100000 in
theorem c_X9_read (l : Launch) (G : GX) (h : Nat → Nat) {f_places : Int32} {f_kinds : Int32} {f_weights : Nat → Int32} {f_howManyGenerators : Int32} {f_generators : Nat → Int32} {f_racks : Nat → Int32} {n_m0 : Nat} {n_m1 : Nat} {n_m2 : Nat} {n_s0 : Nat} {n_s1 : Nat} {n_s2 : Nat} {v_keys : Nat → Int32} {v_asFound : Nat → Int32} {v_found : Int32} {v_turns : Int32} {v_places : Int32} {p_keys : Nat → Int32} {p_asFound : Nat → Int32} {p_found : Int32} {p_turns : Int32} {p_places : Int32} {u_known : Int32} {w_known : Int32} {t_signs : Nat → Int32} {t_length : Int32} {t_whole : Int32} {t_begins : Nat → Int32} {t_ends : Nat → Int32} {r_sorts : Nat → Int32} {r_numbers : Nat → Int32} {r_length : Int32} {x_hasImage : Int32} {f_howManySeen : Int32} {f_seenFirst : Nat → Int32} {f_seenSecond : Nat → Int32} {f_seenIs : Nat → Int32} {f_seenPlaces : Nat → Int32} {f_howManyEvents : Int32} {f_eventWhat : Nat → Int32} {f_eventNumber : Nat → Int32} {g_places : Int32} {g_kinds : Int32} {g_weights : Nat → Int32} {g_howManyGenerators : Int32} {g_generators : Nat → Int32} {g_racks : Nat → Int32} {g_howManySeen : Int32} {g_seenFirst : Nat → Int32} {g_seenSecond : Nat → Int32} {g_seenIs : Nat → Int32} {g_seenPlaces : Nat → Int32} {g_howManyEvents : Int32} {g_eventWhat : Nat → Int32} {g_eventNumber : Nat → Int32} {i_sort : Nat → Int32} {i_howOften : Nat → Int32} {i_sorts : Int32} {i_moves : Int32} {n_uq : Nat} {n_u : Nat} {u_leasts : Nat → Int32} {u_howMany : Int32} {n_wq : Nat} {n_w : Nat} {w_leasts : Nat → Int32} {w_howMany : Int32} {wo : va_W} {res : Int32 × Int32 × Int32 × (Nat → Int32) × Int32 × (Nat → Int32) × (Nat → Int32) × Nat × Nat × Nat × Nat × Nat × Nat × (Nat → Int32) × (Nat → Int32) × Int32 × Int32 × Int32 × (Nat → Int32) × (Nat → Int32) × Int32 × Int32 × Int32 × Int32 × Int32 × Int32 × Int32 × (Nat → Int32) × (Nat → Int32) × (Nat → Int32) × (Nat → Int32) × Int32} (hf : f_X9_read f_places f_kinds f_weights f_howManyGenerators f_generators f_racks n_m0 n_m1 n_m2 n_s0 n_s1 n_s2 v_keys v_asFound v_found v_turns v_places p_keys p_asFound p_found p_turns p_places u_known w_known t_signs t_length t_whole t_begins t_ends r_sorts r_numbers r_length = some res) : MX l yX9_read cX9_read 4 (some .int) rm_X9_read G ((xb G h x_hasImage f_places f_kinds f_weights f_howManyGenerators f_generators f_racks f_howManySeen f_seenFirst f_seenSecond f_seenIs f_seenPlaces f_howManyEvents f_eventWhat f_eventNumber g_places g_kinds g_weights g_howManyGenerators g_generators g_racks g_howManySeen g_seenFirst g_seenSecond g_seenIs g_seenPlaces g_howManyEvents g_eventWhat g_eventNumber n_m0 n_m1 n_m2 n_s0 n_s1 n_s2 v_keys v_asFound v_found v_turns v_places p_keys p_asFound p_found p_turns p_places i_sort i_howOften i_sorts i_moves n_uq n_u u_leasts u_howMany u_known n_wq n_w w_leasts w_howMany w_known t_signs t_length t_whole t_begins t_ends r_sorts r_numbers r_length) ++ wo) [.ref (h 0)] ((xb G h x_hasImage res.2.1 res.2.2.1 res.2.2.2.1 res.2.2.2.2.1 res.2.2.2.2.2.1 res.2.2.2.2.2.2.1 f_howManySeen f_seenFirst f_seenSecond f_seenIs f_seenPlaces f_howManyEvents f_eventWhat f_eventNumber g_places g_kinds g_weights g_howManyGenerators g_generators g_racks g_howManySeen g_seenFirst g_seenSecond g_seenIs g_seenPlaces g_howManyEvents g_eventWhat g_eventNumber res.2.2.2.2.2.2.2.1 res.2.2.2.2.2.2.2.2.1 res.2.2.2.2.2.2.2.2.2.1 res.2.2.2.2.2.2.2.2.2.2.1 res.2.2.2.2.2.2.2.2.2.2.2.1 res.2.2.2.2.2.2.2.2.2.2.2.2.1 res.2.2.2.2.2.2.2.2.2.2.2.2.2.1 res.2.2.2.2.2.2.2.2.2.2.2.2.2.2.1 res.2.2.2.2.2.2.2.2.2.2.2.2.2.2.2.1 res.2.2.2.2.2.2.2.2.2.2.2.2.2.2.2.2.1 res.2.2.2.2.2.2.2.2.2.2.2.2.2.2.2.2.2.1 res.2.2.2.2.2.2.2.2.2.2.2.2.2.2.2.2.2.2.1 res.2.2.2.2.2.2.2.2.2.2.2.2.2.2.2.2.2.2.2.1 res.2.2.2.2.2.2.2.2.2.2.2.2.2.2.2.2.2.2.2.2.1 res.2.2.2.2.2.2.2.2.2.2.2.2.2.2.2.2.2.2.2.2.2.1 res.2.2.2.2.2.2.2.2.2.2.2.2.2.2.2.2.2.2.2.2.2.2.1 i_sort i_howOften i_sorts i_moves n_uq n_u u_leasts u_howMany res.2.2.2.2.2.2.2.2.2.2.2.2.2.2.2.2.2.2.2.2.2.2.2.1 n_wq n_w w_leasts w_howMany res.2.2.2.2.2.2.2.2.2.2.2.2.2.2.2.2.2.2.2.2.2.2.2.2.1 t_signs res.2.2.2.2.2.2.2.2.2.2.2.2.2.2.2.2.2.2.2.2.2.2.2.2.2.1 res.2.2.2.2.2.2.2.2.2.2.2.2.2.2.2.2.2.2.2.2.2.2.2.2.2.2.1 res.2.2.2.2.2.2.2.2.2.2.2.2.2.2.2.2.2.2.2.2.2.2.2.2.2.2.2.1 res.2.2.2.2.2.2.2.2.2.2.2.2.2.2.2.2.2.2.2.2.2.2.2.2.2.2.2.2.1 res.2.2.2.2.2.2.2.2.2.2.2.2.2.2.2.2.2.2.2.2.2.2.2.2.2.2.2.2.2.1 res.2.2.2.2.2.2.2.2.2.2.2.2.2.2.2.2.2.2.2.2.2.2.2.2.2.2.2.2.2.2.1 res.2.2.2.2.2.2.2.2.2.2.2.2.2.2.2.2.2.2.2.2.2.2.2.2.2.2.2.2.2.2.2) ++ wo) (some (.int res.1)) 0 0 := by
  refine MX.of (plainFor_of_name (by decide)) (Nat.le_of_ble_eq_true rfl) ?_
  intro p e s m below meth c A X E hI ls hl
  obtain ⟨hx, hb, hml, hown, hts, hr, hlk⟩ := id X
  have hl : lv_has ls 4 [(0, .ref (h 0))] := hl
  unfold f_X9_read at hf
  refine lv_aload_n (pc := 0) hx hb dX9_read_0 rfl (lv_at hl 0 rfl) ?_
  refine x_get (pc := 1) X E hI inX9 0 rfl rfl 8 (by decide) tw_2_15 rfl dX9_read_1 ?_
  obtain ⟨t1, e1, hf⟩ := q_ob hf
  refine x_cVt (pc := 4) (st1 := [.int t1.1]) (w2 := (xb G h x_hasImage f_places f_kinds f_weights f_howManyGenerators f_generators f_racks f_howManySeen f_seenFirst f_seenSecond f_seenIs f_seenPlaces f_howManyEvents f_eventWhat f_eventNumber g_places g_kinds g_weights g_howManyGenerators g_generators g_racks g_howManySeen g_seenFirst g_seenSecond g_seenIs g_seenPlaces g_howManyEvents g_eventWhat g_eventNumber n_m0 n_m1 n_m2 n_s0 n_s1 n_s2 v_keys v_asFound v_found v_turns v_places p_keys p_asFound p_found p_turns p_places i_sort i_howOften i_sorts i_moves n_uq n_u u_leasts u_howMany u_known n_wq n_w w_leasts w_howMany w_known t_signs t_length t1.2.1 t1.2.2.1 t1.2.2.2 r_sorts r_numbers r_length)) X E hI (c_X7_findFault l G (h 26) (h 27) (h 28) (h 29) e1) kv_X9_235 hd_X7_findFault ⟨rfl, rfl⟩ (by decide) pt_xb_txw_0 pt_xb_txw_0q 0 rfl rfl rfl rfl hl.1 rfl (Nat.le_of_ble_eq_true rfl) dX9_read_4 ⟨Nat.le_of_ble_eq_true rfl, Nat.le_of_ble_eq_true rfl⟩ rfl (fun H locs hI => ?_)
  refine lv_istore_n (pc := 7) (lv' := [(1, .int t1.1), (0, .ref (h 0))]) hx hb dX9_read_7 rfl hl (by decide) rfl (fun ls hl => ?_)
  refine lv_iload_n (pc := 8) hx hb dX9_read_8 rfl (lv_at hl 0 rfl) ?_
  refine lv_if_lt (pc := 9) (tgt := 37) hx hb dX9_read_9 (by decide) (fun c2 => ?_) (fun c2 => ?_)
  · have hf := q_ip c2 hf
    refine lv_iconst (pc := 37) (v := 0) hx hb dX9_read_37 (by decide) ?_
    refine lv_istore_n (pc := 38) (lv' := [(2, .int 0), (1, .int t1.1), (0, .ref (h 0))]) hx hb dX9_read_38 rfl hl (by decide) rfl (fun ls hl => ?_)
    refine lv_iconst (pc := 39) (v := 0) hx hb dX9_read_39 (by decide) ?_
    refine lv_istore_n (pc := 40) (lv' := [(3, .int 0), (2, .int 0), (1, .int t1.1), (0, .ref (h 0))]) hx hb dX9_read_40 rfl hl (by decide) rfl (fun ls hl => ?_)
    refine k_X9_read_L41 X E (fun l2_3 l3_3 f_places_3 f_kinds_3 f_weights_3 f_howManyGenerators_3 f_generators_3 f_racks_3 n_m0_3 n_m1_3 n_m2_3 n_s0_3 n_s1_3 n_s2_3 v_keys_3 v_asFound_3 v_found_3 v_turns_3 v_places_3 p_keys_3 p_asFound_3 p_found_3 p_turns_3 p_places_3 u_known_3 w_known_3 r_sorts_3 r_numbers_3 r_length_3 H locs ls hI hl hf => ?_) hI (lv_sub hl [3, 1, 0] rfl) hf
    refine lv_aload_n (pc := 84) hx hb dX9_read_84 rfl (lv_at hl 0 rfl) ?_
    refine x_get (pc := 85) X E hI inX9 0 rfl rfl 8 (by decide) tw_2_15 rfl dX9_read_85 ?_
    refine lv_iconst (pc := 88) (v := 0) hx hb dX9_read_88 (by decide) ?_
    refine x_put (pc := 89) (w' := ((xb G h x_hasImage f_places_3 f_kinds_3 f_weights_3 f_howManyGenerators_3 f_generators_3 f_racks_3 f_howManySeen f_seenFirst f_seenSecond f_seenIs f_seenPlaces f_howManyEvents f_eventWhat f_eventNumber g_places g_kinds g_weights g_howManyGenerators g_generators g_racks g_howManySeen g_seenFirst g_seenSecond g_seenIs g_seenPlaces g_howManyEvents g_eventWhat g_eventNumber n_m0_3 n_m1_3 n_m2_3 n_s0_3 n_s1_3 n_s2_3 v_keys_3 v_asFound_3 v_found_3 v_turns_3 v_places_3 p_keys_3 p_asFound_3 p_found_3 p_turns_3 p_places_3 i_sort i_howOften i_sorts i_moves n_uq n_u u_leasts u_howMany u_known_3 n_wq n_w w_leasts w_howMany w_known_3 t_signs 0 t1.2.1 t1.2.2.1 t1.2.2.2 r_sorts_3 r_numbers_3 r_length_3) ++ wo)) X E hI inX7 tyX7 tyX7_ok nmX7 34 rfl rfl 1 (by decide) tw_1_170 rfl rfl rfl (Nat.le_of_ble_eq_true rfl) rfl dX9_read_89 (fun H locs hI => ?_)
    refine lv_iload_n (pc := 92) hx hb dX9_read_92 rfl (lv_at hl 1 rfl) ?_
    obtain rfl := Option.some.inj hf
    exact x_iret X hI dX9_read_93
  · have hf := q_in c2 hf
    refine lv_aload_n (pc := 12) hx hb dX9_read_12 rfl (lv_at hl 1 rfl) ?_
    refine x_get (pc := 13) X E hI inX9 0 rfl rfl 8 (by decide) tw_2_15 rfl dX9_read_13 ?_
    refine lv_iload_n (pc := 16) hx hb dX9_read_16 rfl (lv_at hl 0 rfl) ?_
    refine lv_aload_n (pc := 17) hx hb dX9_read_17 rfl (lv_at hl 1 rfl) ?_
    refine x_get (pc := 18) X E hI inX9 0 rfl rfl 9 (by decide) tw_2_16 rfl dX9_read_18 ?_
    obtain ⟨t4, e4, hf⟩ := q_ob hf
    refine x_cVt (pc := 21) (st1 := []) (w2 := (xb G h x_hasImage f_places f_kinds f_weights f_howManyGenerators f_generators f_racks f_howManySeen f_seenFirst f_seenSecond f_seenIs f_seenPlaces f_howManyEvents f_eventWhat f_eventNumber g_places g_kinds g_weights g_howManyGenerators g_generators g_racks g_howManySeen g_seenFirst g_seenSecond g_seenIs g_seenPlaces g_howManyEvents g_eventWhat g_eventNumber n_m0 n_m1 n_m2 n_s0 n_s1 n_s2 v_keys v_asFound v_found v_turns v_places p_keys p_asFound p_found p_turns p_places i_sort i_howOften i_sorts i_moves n_uq n_u u_leasts u_howMany u_known n_wq n_w w_leasts w_howMany w_known t_signs t_length t1.2.1 t1.2.2.1 t1.2.2.2 t4.1 t4.2.1 t4.2.2)) X E hI (c_X7_explain l G (h 26) (h 27) (h 28) (h 29) (h 30) (h 31) (h 32) e4) kv_X9_238 hd_X7_explain ⟨rfl, rfl⟩ (by decide) pt_xb_ttw_0 pt_xb_ttw_0q 0 rfl rfl rfl rfl hl.1 rfl (Nat.le_of_ble_eq_true rfl) dX9_read_21 ⟨Nat.le_of_ble_eq_true rfl, Nat.le_of_ble_eq_true rfl⟩ rfl (fun H locs hI => ?_)
    refine lv_aload_n (pc := 24) hx hb dX9_read_24 rfl (lv_at hl 1 rfl) ?_
    refine x_get (pc := 25) X E hI inX9 0 rfl rfl 8 (by decide) tw_2_15 rfl dX9_read_25 ?_
    refine lv_iconst (pc := 28) (v := 0) hx hb dX9_read_28 (by decide) ?_
    refine x_put (pc := 29) (w' := ((xb G h x_hasImage f_places f_kinds f_weights f_howManyGenerators f_generators f_racks f_howManySeen f_seenFirst f_seenSecond f_seenIs f_seenPlaces f_howManyEvents f_eventWhat f_eventNumber g_places g_kinds g_weights g_howManyGenerators g_generators g_racks g_howManySeen g_seenFirst g_seenSecond g_seenIs g_seenPlaces g_howManyEvents g_eventWhat g_eventNumber n_m0 n_m1 n_m2 n_s0 n_s1 n_s2 v_keys v_asFound v_found v_turns v_places p_keys p_asFound p_found p_turns p_places i_sort i_howOften i_sorts i_moves n_uq n_u u_leasts u_howMany u_known n_wq n_w w_leasts w_howMany w_known t_signs 0 t1.2.1 t1.2.2.1 t1.2.2.2 t4.1 t4.2.1 t4.2.2) ++ wo)) X E hI inX7 tyX7 tyX7_ok nmX7 34 rfl rfl 1 (by decide) tw_1_170 rfl rfl rfl (Nat.le_of_ble_eq_true rfl) rfl dX9_read_29 (fun H locs hI => ?_)
    refine lv_bipush (pc := 32) (v := (-10)) hx hb dX9_read_32 (by decide) ?_
    refine lv_iload_n (pc := 34) hx hb dX9_read_34 rfl (lv_at hl 0 rfl) ?_
    refine lv_isub (pc := 35) hx hb dX9_read_35 ?_
    obtain rfl := Option.some.inj hf
    exact x_iret X hI dX9_read_36

abbrev rm_X9_cause : Room := { frames := 1, cells := 0, slots := 0, locals := 20 }
set_option maxHeartbeats 4000000 in
set_option maxRecDepth 100000 in
theorem c_X9_cause (l : Launch) (G : GX) (h : Nat → Nat) {l1 : Int32} {l2 : Int32} {r_sorts : Nat → Int32} {r_numbers : Nat → Int32} {r_length : Int32} {x_hasImage : Int32} {f_places : Int32} {f_kinds : Int32} {f_weights : Nat → Int32} {f_howManyGenerators : Int32} {f_generators : Nat → Int32} {f_racks : Nat → Int32} {f_howManySeen : Int32} {f_seenFirst : Nat → Int32} {f_seenSecond : Nat → Int32} {f_seenIs : Nat → Int32} {f_seenPlaces : Nat → Int32} {f_howManyEvents : Int32} {f_eventWhat : Nat → Int32} {f_eventNumber : Nat → Int32} {g_places : Int32} {g_kinds : Int32} {g_weights : Nat → Int32} {g_howManyGenerators : Int32} {g_generators : Nat → Int32} {g_racks : Nat → Int32} {g_howManySeen : Int32} {g_seenFirst : Nat → Int32} {g_seenSecond : Nat → Int32} {g_seenIs : Nat → Int32} {g_seenPlaces : Nat → Int32} {g_howManyEvents : Int32} {g_eventWhat : Nat → Int32} {g_eventNumber : Nat → Int32} {n_m0 : Nat} {n_m1 : Nat} {n_m2 : Nat} {n_s0 : Nat} {n_s1 : Nat} {n_s2 : Nat} {v_keys : Nat → Int32} {v_asFound : Nat → Int32} {v_found : Int32} {v_turns : Int32} {v_places : Int32} {p_keys : Nat → Int32} {p_asFound : Nat → Int32} {p_found : Int32} {p_turns : Int32} {p_places : Int32} {i_sort : Nat → Int32} {i_howOften : Nat → Int32} {i_sorts : Int32} {i_moves : Int32} {n_uq : Nat} {n_u : Nat} {u_leasts : Nat → Int32} {u_howMany : Int32} {u_known : Int32} {n_wq : Nat} {n_w : Nat} {w_leasts : Nat → Int32} {w_howMany : Int32} {w_known : Int32} {t_signs : Nat → Int32} {t_length : Int32} {t_whole : Int32} {t_begins : Nat → Int32} {t_ends : Nat → Int32} {wo : va_W} {res : Int32} (hf : f_X9_cause l1 l2 r_sorts r_numbers r_length = some res) : MX l yX9_cause cX9_cause 3 (some .int) rm_X9_cause G ((xb G h x_hasImage f_places f_kinds f_weights f_howManyGenerators f_generators f_racks f_howManySeen f_seenFirst f_seenSecond f_seenIs f_seenPlaces f_howManyEvents f_eventWhat f_eventNumber g_places g_kinds g_weights g_howManyGenerators g_generators g_racks g_howManySeen g_seenFirst g_seenSecond g_seenIs g_seenPlaces g_howManyEvents g_eventWhat g_eventNumber n_m0 n_m1 n_m2 n_s0 n_s1 n_s2 v_keys v_asFound v_found v_turns v_places p_keys p_asFound p_found p_turns p_places i_sort i_howOften i_sorts i_moves n_uq n_u u_leasts u_howMany u_known n_wq n_w w_leasts w_howMany w_known t_signs t_length t_whole t_begins t_ends r_sorts r_numbers r_length) ++ wo) [.ref (h 0), .int l1, .int l2] ((xb G h x_hasImage f_places f_kinds f_weights f_howManyGenerators f_generators f_racks f_howManySeen f_seenFirst f_seenSecond f_seenIs f_seenPlaces f_howManyEvents f_eventWhat f_eventNumber g_places g_kinds g_weights g_howManyGenerators g_generators g_racks g_howManySeen g_seenFirst g_seenSecond g_seenIs g_seenPlaces g_howManyEvents g_eventWhat g_eventNumber n_m0 n_m1 n_m2 n_s0 n_s1 n_s2 v_keys v_asFound v_found v_turns v_places p_keys p_asFound p_found p_turns p_places i_sort i_howOften i_sorts i_moves n_uq n_u u_leasts u_howMany u_known n_wq n_w w_leasts w_howMany w_known t_signs t_length t_whole t_begins t_ends r_sorts r_numbers r_length) ++ wo) (some (.int res)) 0 0 := by
  refine MX.of (plainFor_of_name (by decide)) (Nat.le_of_ble_eq_true rfl) ?_
  intro p e s m below meth c A X E hI ls hl
  obtain ⟨hx, hb, hml, hown, hts, hr, hlk⟩ := id X
  have hl : lv_has ls 3 [(0, .ref (h 0)), (1, .int l1), (2, .int l2)] := hl
  unfold f_X9_cause at hf
  refine lv_iload_n (pc := 0) hx hb dX9_cause_0 rfl (lv_at hl 1 rfl) ?_
  refine lv_if_lt (pc := 1) (tgt := 11) hx hb dX9_cause_1 (by decide) (fun c1 => ?_) (fun c1 => ?_)
  · have hf := q_ip c1 hf
    refine lv_iconst (pc := 11) (v := (-1)) hx hb dX9_cause_11 (by decide) ?_
    obtain rfl := Option.some.inj hf
    exact x_iret X hI dX9_cause_12
  · have hf := q_in c1 hf
    refine lv_iload_n (pc := 4) hx hb dX9_cause_4 rfl (lv_at hl 2 rfl) ?_
    obtain ⟨t2, e2, hf⟩ := q_ob hf
    refine x_cSn (pc := 5) (st1 := [.int t2]) X E hI (c_X9_isFlag l G e2) ks_X9_99 hd_X9_isFlag ⟨rfl, rfl⟩ (by decide) rfl hl.1 rfl (Nat.le_of_ble_eq_true rfl) dX9_cause_5 ⟨Nat.le_of_ble_eq_true rfl, Nat.le_of_ble_eq_true rfl⟩ rfl (fun H locs hI => ?_)
    refine lv_if_ne (pc := 8) (tgt := 13) hx hb dX9_cause_8 (by decide) (fun c3 => ?_) (fun c3 => ?_)
    · have hf := q_in c3 hf
      refine lv_iload_n (pc := 13) hx hb dX9_cause_13 rfl (lv_at hl 1 rfl) ?_
      refine lv_aload_n (pc := 14) hx hb dX9_cause_14 rfl (lv_at hl 0 rfl) ?_
      refine x_get (pc := 15) X E hI inX9 0 rfl rfl 9 (by decide) tw_2_16 rfl dX9_cause_15 ?_
      refine x_get (pc := 18) X E hI inX8 38 rfl rfl 2 (by decide) tw_1_197 rfl dX9_cause_18 ?_
      refine lv_icmp_lt (pc := 21) (tgt := 27) hx hb dX9_cause_21 (by decide) (fun c4 => ?_) (fun c4 => ?_)
      · have hf := q_ip c4 hf
        refine lv_iload_n (pc := 27) hx hb dX9_cause_27 rfl (lv_at hl 2 rfl) ?_
        refine lv_if_ne (pc := 28) (tgt := 43) hx hb dX9_cause_28 (by decide) (fun c5 => ?_) (fun c5 => ?_)
        · have hf := q_in c5 hf
          refine lv_aload_n (pc := 43) hx hb dX9_cause_43 rfl (lv_at hl 0 rfl) ?_
          refine x_get (pc := 44) X E hI inX9 0 rfl rfl 9 (by decide) tw_2_16 rfl dX9_cause_44 ?_
          refine x_get (pc := 47) X E hI inX8 38 rfl rfl 1 (by decide) tw_1_195 rfl dX9_cause_47 ?_
          refine lv_iload_n (pc := 50) hx hb dX9_cause_50 rfl (lv_at hl 1 rfl) ?_
          obtain ⟨t6, e6, hf⟩ := q_ob hf
          refine x_iald (pc := 51) X E hI 40 rfl e6 dX9_cause_51 ?_
          obtain rfl := Option.some.inj hf
          exact x_iret X hI dX9_cause_52
        · have hf := q_ip c5 hf
          refine lv_aload_n (pc := 31) hx hb dX9_cause_31 rfl (lv_at hl 0 rfl) ?_
          refine x_get (pc := 32) X E hI inX9 0 rfl rfl 9 (by decide) tw_2_16 rfl dX9_cause_32 ?_
          refine x_get (pc := 35) X E hI inX8 38 rfl rfl 0 (by decide) tw_1_193 rfl dX9_cause_35 ?_
          refine lv_iload_n (pc := 38) hx hb dX9_cause_38 rfl (lv_at hl 1 rfl) ?_
          obtain ⟨t7, e7, hf⟩ := q_ob hf
          refine x_iald (pc := 39) X E hI 39 rfl e7 dX9_cause_39 ?_
          refine lv_goto (pc := 40) (tgt := 52) hx hb dX9_cause_40 (by decide) ?_
          obtain rfl := Option.some.inj hf
          exact x_iret X hI dX9_cause_52
      · have hf := q_in c4 hf
        refine lv_bipush (pc := 24) (v := (-5)) hx hb dX9_cause_24 (by decide) ?_
        obtain rfl := Option.some.inj hf
        exact x_iret X hI dX9_cause_26
    · have hf := q_ip c3 hf
      refine lv_iconst (pc := 11) (v := (-1)) hx hb dX9_cause_11 (by decide) ?_
      obtain rfl := Option.some.inj hf
      exact x_iret X hI dX9_cause_12

