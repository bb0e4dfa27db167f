abbrev rm_X10_index : Room := { frames := 7, cells := 0, slots := 0, locals := 154 }
set_option maxHeartbeats 4000000 in
set_option maxRecDepth 100000 in
theorem c_X10_index (l : Launch) (G : GX) (h : Nat → Nat) {l1 : Int32} {l2 : Int32} {l3 : Int32} {z_s : Nat → Int32} {z_moveMany : Int32} {z_moves : Nat → Int32} {z_hands : Nat → Int32} {z_asked : Nat → Int32} {z_types : Nat → Int32} {z_typeCounts : Nat → Int32} {z_typeMany : Int32} {z_thrown : Int32} {z_kept : Nat → Int32} {z_isKept : Int32} {z_troubles : Int32} {z_troubleSorts : Nat → Int32} {z_troubleNumbers : Nat → Int32} {z_paint : Nat → Int32} {z_leasts : Nat → Int32} {z_isSeen : Nat → Int32} {z_classMany : Int32} {z_text : Nat → Int32} {z_signs : Int32} {z_at : Int32} {z_lacks : Int32} {z_clauses : Int32} {z_begun : Int32} {z_letters : Nat → Int32} {z_firsts : Nat → Int32} {z_seconds : Nat → Int32} {z_aside : Nat → Int32} {z_sorts : Nat → Int32} {z_sizes : Nat → Int32} {z_items : Nat → Int64} {res : Int32 × Int32 × (Nat → Int32) × (Nat → Int32) × (Nat → Int32) × (Nat → Int32) × (Nat → Int32) × Int32} (hf : f_X10_index l1 l2 l3 z_s z_moveMany z_moves z_hands z_asked z_types z_typeCounts z_typeMany = some res) : MX l yX10_index cX10_index 4 (some .int) rm_X10_index G (mw G h z_thrown z_s z_kept z_isKept z_moveMany z_moves z_hands z_troubles z_troubleSorts z_troubleNumbers z_asked z_paint z_leasts z_isSeen z_classMany z_types z_typeCounts z_typeMany z_text z_signs z_at z_lacks z_clauses z_begun z_letters z_firsts z_seconds z_aside z_sorts z_sizes z_items) [.ref (h 0), .int l1, .int l2, .int l3] (mw G h z_thrown z_s z_kept z_isKept res.2.1 res.2.2.1 res.2.2.2.1 z_troubles z_troubleSorts z_troubleNumbers res.2.2.2.2.1 z_paint z_leasts z_isSeen z_classMany res.2.2.2.2.2.1 res.2.2.2.2.2.2.1 res.2.2.2.2.2.2.2 z_text z_signs z_at z_lacks z_clauses z_begun z_letters z_firsts z_seconds z_aside z_sorts z_sizes z_items) (some (.int res.1)) 0 0 := by
  refine MX.of (plainFor_of_name (by decide)) (Nat.le_of_ble_eq_true rfl) ?_
  intro p e s m below meth c A X E hI ls hl
  obtain ⟨hx, hb, hml, hown, hts, hr, hlk⟩ := id X
  have hl : lv_has ls 4 [(0, .ref (h 0)), (1, .int l1), (2, .int l2), (3, .int l3)] := hl
  unfold f_X10_index at hf
  refine lv_iload_n (pc := 0) hx hb dX10_index_0 rfl (lv_at hl 1 rfl) ?_
  obtain ⟨t1, e1, hf⟩ := q_ob hf
  refine x_cSn (pc := 1) (st1 := [.int t1]) X E hI (c_X10_isBy l G e1) ks_X10_222 hd_X10_isBy ⟨rfl, rfl⟩ (by decide) rfl hl.1 rfl (Nat.le_of_ble_eq_true rfl) dX10_index_1 ⟨Nat.le_of_ble_eq_true rfl, Nat.le_of_ble_eq_true rfl⟩ rfl (fun H locs hI => ?_)
  refine lv_if_ne (pc := 4) (tgt := 9) hx hb dX10_index_4 (by decide) (fun c2 => ?_) (fun c2 => ?_)
  · have hf := q_in c2 hf
    refine lv_aload_n (pc := 9) hx hb dX10_index_9 rfl (lv_at hl 0 rfl) ?_
    refine lv_iload_n (pc := 10) hx hb dX10_index_10 rfl (lv_at hl 1 rfl) ?_
    obtain ⟨t3, e3, hf⟩ := q_ob hf
    refine x_cVs (pc := 11) (st1 := []) (w1 := (mw G h z_thrown z_s z_kept z_isKept t3.1 t3.2.1 t3.2.2.1 z_troubles z_troubleSorts z_troubleNumbers t3.2.2.2.1 z_paint z_leasts z_isSeen z_classMany t3.2.2.2.2.1 t3.2.2.2.2.2.1 t3.2.2.2.2.2.2 z_text z_signs z_at z_lacks z_clauses z_begun z_letters z_firsts z_seconds z_aside z_sorts z_sizes z_items)) X E hI (c_X10_indexes l G h e3) kv_X10_225 hd_X10_indexes ⟨rfl, rfl⟩ (by decide) 0 rfl rfl rfl rfl hl.1 rfl (Nat.le_of_ble_eq_true rfl) dX10_index_11 ⟨Nat.le_of_ble_eq_true rfl, Nat.le_of_ble_eq_true rfl⟩ rfl (fun H locs hI => ?_)
    refine lv_iload_n (pc := 14) hx hb dX10_index_14 rfl (lv_at hl 2 rfl) ?_
    refine lv_iconst (pc := 15) (v := (-1)) hx hb dX10_index_15 (by decide) ?_
    refine lv_icmp_ne (pc := 16) (tgt := 24) hx hb dX10_index_16 (by decide) (fun c4 => ?_) (fun c4 => ?_)
    · have hf := q_in c4 hf
      refine lv_iload_n (pc := 24) hx hb dX10_index_24 rfl (lv_at hl 2 rfl) ?_
      refine lv_i2l (pc := 25) (v := (l2 : Int32).toInt64) hx hb dX10_index_25 rfl ?_
      refine lv_lconst (pc := 26) (v := 0) hx hb dX10_index_26 (by decide) ?_
      refine lv_aload_n (pc := 27) hx hb dX10_index_27 rfl (lv_at hl 0 rfl) ?_
      refine x_get (pc := 28) X E hI inX10 0 rfl rfl 17 (by decide) tw_4_6 rfl dX10_index_28 ?_
      refine lv_iconst (pc := 31) (v := 1) hx hb dX10_index_31 (by decide) ?_
      refine lv_isub (pc := 32) hx hb dX10_index_32 ?_
      refine lv_i2l (pc := 33) (v := (t3.2.2.2.2.2.2 - 1 : Int32).toInt64) hx hb dX10_index_33 rfl ?_
      obtain ⟨t5, e5, hf⟩ := q_ob hf
      refine x_cSn (pc := 34) (st1 := [.int t5]) X E hI (c_X10_in l G e5) ks_X10_85 hd_X10_in ⟨rfl, rfl⟩ (by decide) rfl hl.1 rfl (Nat.le_of_ble_eq_true rfl) dX10_index_34 ⟨Nat.le_of_ble_eq_true rfl, Nat.le_of_ble_eq_true rfl⟩ rfl (fun H locs hI => ?_)
      refine lv_if_eq (pc := 37) (tgt := 50) hx hb dX10_index_37 (by decide) (fun c6 => ?_) (fun c6 => ?_)
      · have hf := q_ip c6 hf
        refine lv_iconst (pc := 50) (v := (-1)) hx hb dX10_index_50 (by decide) ?_
        obtain rfl := Option.some.inj hf
        exact x_iret X hI dX10_index_51
      · have hf := q_in c6 hf
        refine lv_iload_n (pc := 40) hx hb dX10_index_40 rfl (lv_at hl 3 rfl) ?_
        refine lv_i2l (pc := 41) (v := (l3 : Int32).toInt64) hx hb dX10_index_41 rfl ?_
        refine lv_lconst (pc := 42) (v := 0) hx hb dX10_index_42 (by decide) ?_
        refine lv_lconst (pc := 43) (v := 1) hx hb dX10_index_43 (by decide) ?_
        obtain ⟨t7, e7, hf⟩ := q_ob hf
        refine x_cSn (pc := 44) (st1 := [.int t7]) X E hI (c_X10_in l G e7) ks_X10_85 hd_X10_in ⟨rfl, rfl⟩ (by decide) rfl hl.1 rfl (Nat.le_of_ble_eq_true rfl) dX10_index_44 ⟨Nat.le_of_ble_eq_true rfl, Nat.le_of_ble_eq_true rfl⟩ rfl (fun H locs hI => ?_)
        refine lv_if_ne (pc := 47) (tgt := 52) hx hb dX10_index_47 (by decide) (fun c8 => ?_) (fun c8 => ?_)
        · have hf := q_in c8 hf
          refine lv_iload_n (pc := 52) hx hb dX10_index_52 rfl (lv_at hl 3 rfl) ?_
          refine lv_if_ne (pc := 53) (tgt := 65) hx hb dX10_index_53 (by decide) (fun c9 => ?_) (fun c9 => ?_)
          · have hf := q_in c9 hf
            refine lv_aload_n (pc := 65) hx hb dX10_index_65 rfl (lv_at hl 0 rfl) ?_
            refine x_get (pc := 66) X E hI inX10 0 rfl rfl 16 (by decide) tw_4_5 rfl dX10_index_66 ?_
            refine lv_iload_n (pc := 69) hx hb dX10_index_69 rfl (lv_at hl 2 rfl) ?_
            obtain ⟨t10, e10, hf⟩ := q_ob hf
            refine x_iald (pc := 70) X E hI 12 rfl e10 dX10_index_70 ?_
            obtain rfl := Option.some.inj hf
            exact x_iret X hI dX10_index_71
          · have hf := q_ip c9 hf
            refine lv_aload_n (pc := 56) hx hb dX10_index_56 rfl (lv_at hl 0 rfl) ?_
            refine x_get (pc := 57) X E hI inX10 0 rfl rfl 15 (by decide) tw_4_4 rfl dX10_index_57 ?_
            refine lv_iload_n (pc := 60) hx hb dX10_index_60 rfl (lv_at hl 2 rfl) ?_
            obtain ⟨t11, e11, hf⟩ := q_ob hf
            refine x_iald (pc := 61) X E hI 11 rfl e11 dX10_index_61 ?_
            refine lv_goto (pc := 62) (tgt := 71) hx hb dX10_index_62 (by decide) ?_
            obtain rfl := Option.some.inj hf
            exact x_iret X hI dX10_index_71
        · have hf := q_ip c8 hf
          refine lv_iconst (pc := 50) (v := (-1)) hx hb dX10_index_50 (by decide) ?_
          obtain rfl := Option.some.inj hf
          exact x_iret X hI dX10_index_51
    · have hf := q_ip c4 hf
      refine lv_aload_n (pc := 19) hx hb dX10_index_19 rfl (lv_at hl 0 rfl) ?_
      refine x_get (pc := 20) X E hI inX10 0 rfl rfl 17 (by decide) tw_4_6 rfl dX10_index_20 ?_
      obtain rfl := Option.some.inj hf
      exact x_iret X hI dX10_index_23
  · have hf := q_ip c2 hf
    refine lv_iconst (pc := 7) (v := (-1)) hx hb dX10_index_7 (by decide) ?_
    obtain rfl := Option.some.inj hf
    exact x_iret X hI dX10_index_8

abbrev rm_X10_common : Room := { frames := 0, cells := 0, slots := 0, locals := 0 }
set_option maxHeartbeats 4000000 in
set_option maxRecDepth 100000 in
theorem k_X10_common_L4 {p : Program} {l : Launch} {e : Env} {s : State} {m : MethodId} {args : Array Value} {below : List Frame} {meth : Method} {c : Code} {A : Nat → Prop} {G : GX}   {K : Int32 → Int32 → Option (Int32)} {res : Int32} (X : CX RX10 cX10_common 5 (some .int) p s m args meth c) (E : EX G A s)
    (hK : ∀ (l2 : Int32) (l3 : Int32) (H : Heap) (locs : List Loc) (ls : Array Slot), IN A G [] s H locs → lv_has ls 5 [(2, .int l2), (3, .int l3)] → K l2 l3 = some res → W p l e rm_X10_common s m args below meth c H locs 0 0 (MQ below (QX G A [] (some (.int res))) args s 0 0 A) (F0 m 21 ls [])) :
    ∀ {k : Nat} {l2 : Int32} {l3 : Int32} {H : Heap} {locs : List Loc} {ls : Array Slot}, IN A G [] s H locs → lv_has ls 5 [(2, .int l2), (3, .int l3)] → f_X10_common_L4 K k l2 l3 = some res → W p l e rm_X10_common s m args below meth c H locs 0 0 (MQ below (QX G A [] (some (.int res))) args s 0 0 A) (F0 m 4 ls []) := by
  obtain ⟨hx, hb, hml, hown, hts, hr, hlk⟩ := id X
  intro k
  induction k with
  | zero => intro l2 l3 H locs ls hI hl hf; exact nomatch (show none = some res from hf)
  | succ k ih =>
    intro l2 l3 H locs ls hI hl hf
    rw [f_X10_common_L4] at hf
    refine lv_iload_n (pc := 4) hx hb dX10_common_4 rfl (lv_at hl 1 rfl) ?_
    refine lv_if_eq (pc := 5) (tgt := 21) hx hb dX10_common_5 (by decide) (fun c1 => ?_) (fun c1 => ?_)
    · have hf := q_ip c1 hf
      exact hK _ _ _ _ _ hI (lv_sub hl [0, 1] rfl) hf
    · have hf := q_in c1 hf
      refine lv_iload_n (pc := 8) hx hb dX10_common_8 rfl (lv_at hl 0 rfl) ?_
      refine lv_iload_n (pc := 9) hx hb dX10_common_9 rfl (lv_at hl 1 rfl) ?_
      obtain ⟨t2, e2, hf⟩ := q_ob hf
      refine x_irem (pc := 10) X e2 dX10_common_10 ?_
      refine lv_istore (pc := 11) (lv' := [(4, .int t2), (2, .int l2), (3, .int l3)]) hx hb dX10_common_11 hl (by decide) rfl (fun ls hl => ?_)
      refine lv_iload_n (pc := 13) hx hb dX10_common_13 rfl (lv_at hl 2 rfl) ?_
      refine lv_istore_n (pc := 14) (lv' := [(2, .int l3), (4, .int t2), (3, .int l3)]) hx hb dX10_common_14 rfl hl (by decide) rfl (fun ls hl => ?_)
      refine lv_iload (pc := 15) hx hb dX10_common_15 (lv_at hl 1 rfl) ?_
      refine lv_istore_n (pc := 17) (lv' := [(3, .int t2), (2, .int l3), (4, .int t2)]) hx hb dX10_common_17 rfl hl (by decide) rfl (fun ls hl => ?_)
      refine lv_goto (pc := 18) (tgt := 4) hx hb dX10_common_18 (by decide) ?_
      exact ih hI (lv_sub hl [1, 0] rfl) hf

set_option maxHeartbeats 4000000 in
set_option maxRecDepth 100000 in
theorem c_X10_common (l : Launch) (G : GX)  {l0 : Int32} {l1 : Int32} {res : Int32} (hf : f_X10_common l0 l1 = some res) : MX l yX10_common cX10_common 5 (some .int) rm_X10_common G [] [.int l0, .int l1] [] (some (.int res)) 0 0 := by
  refine MX.of (plainFor_of_name (by decide)) (Nat.le_of_ble_eq_true rfl) ?_
  intro p e s m below meth c A X E hI ls hl
  obtain ⟨hx, hb, hml, hown, hts, hr, hlk⟩ := id X
  have hl : lv_has ls 5 [(0, .int l0), (1, .int l1)] := hl
  unfold f_X10_common at hf
  refine lv_iload_n (pc := 0) hx hb dX10_common_0 rfl (lv_at hl 0 rfl) ?_
  refine lv_istore_n (pc := 1) (lv' := [(2, .int l0), (0, .int l0), (1, .int l1)]) hx hb dX10_common_1 rfl hl (by decide) rfl (fun ls hl => ?_)
  refine lv_iload_n (pc := 2) hx hb dX10_common_2 rfl (lv_at hl 2 rfl) ?_
  refine lv_istore_n (pc := 3) (lv' := [(3, .int l1), (2, .int l0), (0, .int l0), (1, .int l1)]) hx hb dX10_common_3 rfl hl (by decide) rfl (fun ls hl => ?_)
  refine k_X10_common_L4 X E (fun l2_1 l3_1 H locs ls hI hl hf => ?_) hI (lv_sub hl [1, 0] rfl) hf
  refine lv_iload_n (pc := 21) hx hb dX10_common_21 rfl (lv_at hl 0 rfl) ?_
  obtain rfl := Option.some.inj hf
  exact x_iret X hI dX10_common_22

abbrev rm_X10_part : Room := { frames := 7, cells := 0, slots := 0, locals := 154 }
set_option maxHeartbeats 4000000 in
set_option maxRecDepth 100000 in
theorem c_X10_part (l : Launch) (G : GX) (h : Nat → Nat) {l1 : Int32} {l2 : Int32} {l3 : Int32} {z_s : Nat → Int32} {z_moveMany : Int32} {z_moves : Nat → Int32} {z_hands : Nat → Int32} {z_asked : Nat → Int32} {z_types : Nat → Int32} {z_typeCounts : Nat → Int32} {z_typeMany : Int32} {z_thrown : Int32} {z_kept : Nat → Int32} {z_isKept : Int32} {z_troubles : Int32} {z_troubleSorts : Nat → Int32} {z_troubleNumbers : Nat → Int32} {z_paint : Nat → Int32} {z_leasts : Nat → Int32} {z_isSeen : Nat → Int32} {z_classMany : Int32} {z_text : Nat → Int32} {z_signs : Int32} {z_at : Int32} {z_lacks : Int32} {z_clauses : Int32} {z_begun : Int32} {z_letters : Nat → Int32} {z_firsts : Nat → Int32} {z_seconds : Nat → Int32} {z_aside : Nat → Int32} {z_sorts : Nat → Int32} {z_sizes : Nat → Int32} {z_items : Nat → Int64} {res : Int64 × Int32 × (Nat → Int32) × (Nat → Int32) × (Nat → Int32) × (Nat → Int32) × (Nat → Int32) × Int32} (hf : f_X10_part l1 l2 l3 z_s z_moveMany z_moves z_hands z_asked z_types z_typeCounts z_typeMany = some res) : MX l yX10_part cX10_part 5 (some .long) rm_X10_part G (mw G h z_thrown z_s z_kept z_isKept z_moveMany z_moves z_hands z_troubles z_troubleSorts z_troubleNumbers z_asked z_paint z_leasts z_isSeen z_classMany z_types z_typeCounts z_typeMany z_text z_signs z_at z_lacks z_clauses z_begun z_letters z_firsts z_seconds z_aside z_sorts z_sizes z_items) [.ref (h 0), .int l1, .int l2, .int l3] (mw G h z_thrown z_s z_kept z_isKept res.2.1 res.2.2.1 res.2.2.2.1 z_troubles z_troubleSorts z_troubleNumbers res.2.2.2.2.1 z_paint z_leasts z_isSeen z_classMany res.2.2.2.2.2.1 res.2.2.2.2.2.2.1 res.2.2.2.2.2.2.2 z_text z_signs z_at z_lacks z_clauses z_begun z_letters z_firsts z_seconds z_aside z_sorts z_sizes z_items) (some (.long res.1)) 0 0 := by
  refine MX.of (plainFor_of_name (by decide)) (Nat.le_of_ble_eq_true rfl) ?_
  intro p e s m below meth c A X E hI ls hl
  obtain ⟨hx, hb, hml, hown, hts, hr, hlk⟩ := id X
  have hl : lv_has ls 5 [(0, .ref (h 0)), (1, .int l1), (2, .int l2), (3, .int l3)] := hl
  unfold f_X10_part at hf
  refine lv_iload_n (pc := 0) hx hb dX10_part_0 rfl (lv_at hl 1 rfl) ?_
  obtain ⟨t1, e1, hf⟩ := q_ob hf
  refine x_cSn (pc := 1) (st1 := [.int t1]) X E hI (c_X10_isBy l G e1) ks_X10_222 hd_X10_isBy ⟨rfl, rfl⟩ (by decide) rfl hl.1 rfl (Nat.le_of_ble_eq_true rfl) dX10_part_1 ⟨Nat.le_of_ble_eq_true rfl, Nat.le_of_ble_eq_true rfl⟩ rfl (fun H locs hI => ?_)
  refine lv_if_eq (pc := 4) (tgt := 17) hx hb dX10_part_4 (by decide) (fun c2 => ?_) (fun c2 => ?_)
  · have hf := q_ip c2 hf
    refine lv_ldc2 (pc := 17) (v := (-9223372036854775808)) hx hb hown (hts _ tw_5_47) dX10_part_17 ?_
    obtain rfl := Option.some.inj hf
    exact x_lret X hI dX10_part_20
  · have hf := q_in c2 hf
    refine lv_iload_n (pc := 7) hx hb dX10_part_7 rfl (lv_at hl 3 rfl) ?_
    refine lv_i2l (pc := 8) (v := (l3 : Int32).toInt64) hx hb dX10_part_8 rfl ?_
    refine lv_lconst (pc := 9) (v := 0) hx hb dX10_part_9 (by decide) ?_
    refine lv_lconst (pc := 10) (v := 1) hx hb dX10_part_10 (by decide) ?_
    obtain ⟨t3, e3, hf⟩ := q_ob hf
    refine x_cSn (pc := 11) (st1 := [.int t3]) X E hI (c_X10_in l G e3) ks_X10_85 hd_X10_in ⟨rfl, rfl⟩ (by decide) rfl hl.1 rfl (Nat.le_of_ble_eq_true rfl) dX10_part_11 ⟨Nat.le_of_ble_eq_true rfl, Nat.le_of_ble_eq_true rfl⟩ rfl (fun H locs hI => ?_)
    refine lv_if_ne (pc := 14) (tgt := 21) hx hb dX10_part_14 (by decide) (fun c4 => ?_) (fun c4 => ?_)
    · have hf := q_in c4 hf
      refine lv_aload_n (pc := 21) hx hb dX10_part_21 rfl (lv_at hl 0 rfl) ?_
      refine lv_iload_n (pc := 22) hx hb dX10_part_22 rfl (lv_at hl 1 rfl) ?_
      obtain ⟨t5, e5, hf⟩ := q_ob hf
      refine x_cVs (pc := 23) (st1 := []) (w1 := (mw G h z_thrown z_s z_kept z_isKept t5.1 t5.2.1 t5.2.2.1 z_troubles z_troubleSorts z_troubleNumbers t5.2.2.2.1 z_paint z_leasts z_isSeen z_classMany t5.2.2.2.2.1 t5.2.2.2.2.2.1 t5.2.2.2.2.2.2 z_text z_signs z_at z_lacks z_clauses z_begun z_letters z_firsts z_seconds z_aside z_sorts z_sizes z_items)) X E hI (c_X10_indexes l G h e5) kv_X10_225 hd_X10_indexes ⟨rfl, rfl⟩ (by decide) 0 rfl rfl rfl rfl hl.1 rfl (Nat.le_of_ble_eq_true rfl) dX10_part_23 ⟨Nat.le_of_ble_eq_true rfl, Nat.le_of_ble_eq_true rfl⟩ rfl (fun H locs hI => ?_)
      refine lv_iload_n (pc := 26) hx hb dX10_part_26 rfl (lv_at hl 2 rfl) ?_
      refine lv_i2l (pc := 27) (v := (l2 : Int32).toInt64) hx hb dX10_part_27 rfl ?_
      refine lv_lconst (pc := 28) (v := 0) hx hb dX10_part_28 (by decide) ?_
      refine lv_aload_n (pc := 29) hx hb dX10_part_29 rfl (lv_at hl 0 rfl) ?_
      refine x_get (pc := 30) X E hI inX10 0 rfl rfl 17 (by decide) tw_4_6 rfl dX10_part_30 ?_
      refine lv_iconst (pc := 33) (v := 1) hx hb dX10_part_33 (by decide) ?_
      refine lv_isub (pc := 34) hx hb dX10_part_34 ?_
      refine lv_i2l (pc := 35) (v := (t5.2.2.2.2.2.2 - 1 : Int32).toInt64) hx hb dX10_part_35 rfl ?_
      obtain ⟨t6, e6, hf⟩ := q_ob hf
      refine x_cSn (pc := 36) (st1 := [.int t6]) X E hI (c_X10_in l G e6) ks_X10_85 hd_X10_in ⟨rfl, rfl⟩ (by decide) rfl hl.1 rfl (Nat.le_of_ble_eq_true rfl) dX10_part_36 ⟨Nat.le_of_ble_eq_true rfl, Nat.le_of_ble_eq_true rfl⟩ rfl (fun H locs hI => ?_)
      refine lv_if_ne (pc := 39) (tgt := 46) hx hb dX10_part_39 (by decide) (fun c7 => ?_) (fun c7 => ?_)
      · have hf := q_in c7 hf
        refine lv_aload_n (pc := 46) hx hb dX10_part_46 rfl (lv_at hl 0 rfl) ?_
        refine lv_iload_n (pc := 47) hx hb dX10_part_47 rfl (lv_at hl 1 rfl) ?_
        obtain ⟨t8, e8, hf⟩ := q_ob hf
        refine x_cVs (pc := 48) (st1 := [.int t8]) (w1 := (mw G h z_thrown z_s z_kept z_isKept t5.1 t5.2.1 t5.2.2.1 z_troubles z_troubleSorts z_troubleNumbers t5.2.2.2.1 z_paint z_leasts z_isSeen z_classMany t5.2.2.2.2.1 t5.2.2.2.2.2.1 t5.2.2.2.2.2.2 z_text z_signs z_at z_lacks z_clauses z_begun z_letters z_firsts z_seconds z_aside z_sorts z_sizes z_items)) X E hI (c_X10_manyOf l G h e8) kv_X10_180 hd_X10_manyOf ⟨rfl, rfl⟩ (by decide) 0 rfl rfl rfl rfl hl.1 rfl (Nat.le_of_ble_eq_true rfl) dX10_part_48 ⟨Nat.le_of_ble_eq_true rfl, Nat.le_of_ble_eq_true rfl⟩ rfl (fun H locs hI => ?_)
        refine lv_istore (pc := 51) (lv' := [(4, .int t8), (0, .ref (h 0)), (1, .int l1), (2, .int l2), (3, .int l3)]) hx hb dX10_part_51 hl (by decide) rfl (fun ls hl => ?_)
        refine lv_iload_n (pc := 53) hx hb dX10_part_53 rfl (lv_at hl 4 rfl) ?_
        refine lv_if_ne (pc := 54) (tgt := 66) hx hb dX10_part_54 (by decide) (fun c9 => ?_) (fun c9 => ?_)
        · have hf := q_in c9 hf
          refine lv_iload (pc := 66) hx hb dX10_part_66 (lv_at hl 0 rfl) ?_
          refine lv_aload_n (pc := 68) hx hb dX10_part_68 rfl (lv_at hl 1 rfl) ?_
          refine x_get (pc := 69) X E hI inX10 0 rfl rfl 16 (by decide) tw_4_5 rfl dX10_part_69 ?_
          refine lv_iload_n (pc := 72) hx hb dX10_part_72 rfl (lv_at hl 3 rfl) ?_
          obtain ⟨t10, e10, hf⟩ := q_ob hf
          refine x_iald (pc := 73) X E hI 12 rfl e10 dX10_part_73 ?_
          refine lv_iload (pc := 74) hx hb dX10_part_74 (lv_at hl 0 rfl) ?_
          obtain ⟨t11, e11, hf⟩ := q_ob hf
          refine x_cSn (pc := 76) (st1 := [.int t11, .int t8]) X E hI (c_X10_common l G e11) ks_X10_230 hd_X10_common ⟨rfl, rfl⟩ (by decide) rfl hl.1 rfl (Nat.le_of_ble_eq_true rfl) dX10_part_76 ⟨Nat.le_of_ble_eq_true rfl, Nat.le_of_ble_eq_true rfl⟩ rfl (fun H locs hI => ?_)
          obtain ⟨t12, e12, hf⟩ := q_ob hf
          refine x_idiv (pc := 79) X e12 dX10_part_79 ?_
          refine lv_i2l (pc := 80) (v := (t12 : Int32).toInt64) hx hb dX10_part_80 rfl ?_
          obtain rfl := Option.some.inj hf
          exact x_lret X hI dX10_part_81
        · have hf := q_ip c9 hf
          refine lv_aload_n (pc := 57) hx hb dX10_part_57 rfl (lv_at hl 1 rfl) ?_
          refine x_get (pc := 58) X E hI inX10 0 rfl rfl 16 (by decide) tw_4_5 rfl dX10_part_58 ?_
          refine lv_iload_n (pc := 61) hx hb dX10_part_61 rfl (lv_at hl 3 rfl) ?_
          obtain ⟨t13, e13, hf⟩ := q_ob hf
          refine x_iald (pc := 62) X E hI 12 rfl e13 dX10_part_62 ?_
          refine lv_goto (pc := 63) (tgt := 68) hx hb dX10_part_63 (by decide) ?_
          refine lv_aload_n (pc := 68) hx hb dX10_part_68 rfl (lv_at hl 1 rfl) ?_
          refine x_get (pc := 69) X E hI inX10 0 rfl rfl 16 (by decide) tw_4_5 rfl dX10_part_69 ?_
          refine lv_iload_n (pc := 72) hx hb dX10_part_72 rfl (lv_at hl 3 rfl) ?_
          obtain ⟨t14, e14, hf⟩ := q_ob hf
          refine x_iald (pc := 73) X E hI 12 rfl e14 dX10_part_73 ?_
          refine lv_iload (pc := 74) hx hb dX10_part_74 (lv_at hl 0 rfl) ?_
          obtain ⟨t15, e15, hf⟩ := q_ob hf
          refine x_cSn (pc := 76) (st1 := [.int t15, .int t13]) X E hI (c_X10_common l G e15) ks_X10_230 hd_X10_common ⟨rfl, rfl⟩ (by decide) rfl hl.1 rfl (Nat.le_of_ble_eq_true rfl) dX10_part_76 ⟨Nat.le_of_ble_eq_true rfl, Nat.le_of_ble_eq_true rfl⟩ rfl (fun H locs hI => ?_)
          obtain ⟨t16, e16, hf⟩ := q_ob hf
          refine x_idiv (pc := 79) X e16 dX10_part_79 ?_
          refine lv_i2l (pc := 80) (v := (t16 : Int32).toInt64) hx hb dX10_part_80 rfl ?_
          obtain rfl := Option.some.inj hf
          exact x_lret X hI dX10_part_81
      · have hf := q_ip c7 hf
        refine lv_ldc2 (pc := 42) (v := (-9223372036854775808)) hx hb hown (hts _ tw_5_47) dX10_part_42 ?_
        obtain rfl := Option.some.inj hf
        exact x_lret X hI dX10_part_45
    · have hf := q_ip c4 hf
      refine lv_ldc2 (pc := 17) (v := (-9223372036854775808)) hx hb hown (hts _ tw_5_47) dX10_part_17 ?_
      obtain rfl := Option.some.inj hf
      exact x_lret X hI dX10_part_20

abbrev rm_X10_many : Room := { frames := 6, cells := 0, slots := 0, locals := 132 }
set_option maxHeartbeats 4000000 in
set_option maxRecDepth 100000 in
theorem k_X10_many_L57 {p : Program} {l : Launch} {e : Env} {s : State} {m : MethodId} {args : Array Value} {below : List Frame} {meth : Method} {c : Code} {A : Nat → Prop} {G : GX} {h : Nat → Nat} {l1 : Int32} {l2 : Int32} {l3 : Int64} {l5 : Int32} {z_thrown : Int32} {z_s : Nat → Int32} {z_kept : Nat → Int32} {z_isKept : Int32} {z_moveMany : Int32} {z_moves : Nat → Int32} {z_hands : Nat → Int32} {z_troubles : Int32} {z_troubleSorts : Nat → Int32} {z_troubleNumbers : Nat → Int32} {z_paint : Nat → Int32} {z_leasts : Nat → Int32} {z_isSeen : Nat → Int32} {z_classMany : Int32} {z_types : Nat → Int32} {z_typeCounts : Nat → Int32} {z_typeMany : Int32} {z_text : Nat → Int32} {z_signs : Int32} {z_at : Int32} {z_lacks : Int32} {z_clauses : Int32} {z_begun : Int32} {z_letters : Nat → Int32} {z_firsts : Nat → Int32} {z_seconds : Nat → Int32} {z_aside : Nat → Int32} {z_sorts : Nat → Int32} {z_sizes : Nat → Int32} {z_items : Nat → Int64} {K : Int32 → (Nat → Int32) → Option (Int64 × Int32 × (Nat → Int32) × (Nat → Int32) × (Nat → Int32))} {res : Int64 × Int32 × (Nat → Int32) × (Nat → Int32) × (Nat → Int32)} (X : CX RX10 cX10_many 9 (some .long) p s m args meth c) (E : EX G A s)
    (hK : ∀ (l6 : Int32) (z_asked : (Nat → Int32)) (H : Heap) (locs : List Loc) (ls : Array Slot), IN A G (mw G h z_thrown z_s z_kept z_isKept z_moveMany z_moves z_hands z_troubles z_troubleSorts z_troubleNumbers z_asked z_paint z_leasts z_isSeen z_classMany z_types z_typeCounts z_typeMany z_text z_signs z_at z_lacks z_clauses z_begun z_letters z_firsts z_seconds z_aside z_sorts z_sizes z_items) s H locs → lv_has ls 9 [(0, .ref (h 0)), (1, .int l1), (2, .int l2), (3, .long l3), (5, .int l5), (6, .int l6)] → K l6 z_asked = some res → W p l e rm_X10_many s m args below meth c H locs 0 0 (MQ below (QX G A (mw G h z_thrown z_s z_kept z_isKept res.2.1 res.2.2.1 res.2.2.2.1 z_troubles z_troubleSorts z_troubleNumbers res.2.2.2.2 z_paint z_leasts z_isSeen z_classMany z_types z_typeCounts z_typeMany z_text z_signs z_at z_lacks z_clauses z_begun z_letters z_firsts z_seconds z_aside z_sorts z_sizes z_items) (some (.long res.1))) args s 0 0 A) (F0 m 89 ls [])) :
    ∀ {k : Nat} {l6 : Int32} {z_asked : (Nat → Int32)} {H : Heap} {locs : List Loc} {ls : Array Slot}, IN A G (mw G h z_thrown z_s z_kept z_isKept z_moveMany z_moves z_hands z_troubles z_troubleSorts z_troubleNumbers z_asked z_paint z_leasts z_isSeen z_classMany z_types z_typeCounts z_typeMany z_text z_signs z_at z_lacks z_clauses z_begun z_letters z_firsts z_seconds z_aside z_sorts z_sizes z_items) s H locs → lv_has ls 9 [(0, .ref (h 0)), (1, .int l1), (2, .int l2), (3, .long l3), (5, .int l5), (6, .int l6)] → f_X10_many_L57 l1 l2 l3 l5 z_s z_moves K k l6 z_asked = some res → W p l e rm_X10_many s m args below meth c H locs 0 0 (MQ below (QX G A (mw G h z_thrown z_s z_kept z_isKept res.2.1 res.2.2.1 res.2.2.2.1 z_troubles z_troubleSorts z_troubleNumbers res.2.2.2.2 z_paint z_leasts z_isSeen z_classMany z_types z_typeCounts z_typeMany z_text z_signs z_at z_lacks z_clauses z_begun z_letters z_firsts z_seconds z_aside z_sorts z_sizes z_items) (some (.long res.1))) args s 0 0 A) (F0 m 57 ls []) := by
  obtain ⟨hx, hb, hml, hown, hts, hr, hlk⟩ := id X
  intro k
  induction k with
  | zero => intro l6 z_asked H locs ls hI hl hf; exact nomatch (show none = some res from hf)
  | succ k ih =>
    intro l6 z_asked H locs ls hI hl hf
    rw [f_X10_many_L57] at hf
    refine lv_iload (pc := 57) hx hb dX10_many_57 (lv_at hl 5 rfl) ?_
    refine lv_aload_n (pc := 59) hx hb dX10_many_59 rfl (lv_at hl 0 rfl) ?_
    refine x_get (pc := 60) X E hI inX10 0 rfl rfl 1 (by decide) tw_3_230 rfl dX10_many_60 ?_
    refine lv_iconst (pc := 63) (v := 0) hx hb dX10_many_63 (by decide) ?_
    obtain ⟨t1, e1, hf⟩ := q_ob hf
    refine x_iald (pc := 64) X E hI 1 rfl e1 dX10_many_64 ?_
    refine lv_icmp_ge (pc := 65) (tgt := 89) hx hb dX10_many_65 (by decide) (fun c2 => ?_) (fun c2 => ?_)
    · have hf := q_ip c2 hf
      exact hK _ _ _ _ _ hI (lv_sub hl [0, 1, 2, 3, 4, 5] rfl) hf
    · have hf := q_in c2 hf
      refine lv_aload_n (pc := 68) hx hb dX10_many_68 rfl (lv_at hl 0 rfl) ?_
      refine x_get (pc := 69) X E hI inX10 0 rfl rfl 10 (by decide) tw_3_239 rfl dX10_many_69 ?_
      refine lv_iload (pc := 72) hx hb dX10_many_72 (lv_at hl 5 rfl) ?_
      refine lv_aload_n (pc := 74) hx hb dX10_many_74 rfl (lv_at hl 0 rfl) ?_
      refine lv_iload (pc := 75) hx hb dX10_many_75 (lv_at hl 4 rfl) ?_
      refine lv_iload (pc := 77) hx hb dX10_many_77 (lv_at hl 5 rfl) ?_
      obtain ⟨t3, e3, hf⟩ := q_ob hf
      refine x_cVs (pc := 79) (st1 := [.int t3, .int l6, .ref (h 7)]) (w1 := (mw G h z_thrown z_s z_kept z_isKept z_moveMany z_moves z_hands z_troubles z_troubleSorts z_troubleNumbers z_asked z_paint z_leasts z_isSeen z_classMany z_types z_typeCounts z_typeMany z_text z_signs z_at z_lacks z_clauses z_begun z_letters z_firsts z_seconds z_aside z_sorts z_sizes z_items)) X E hI (c_X10_digit l G h e3) kv_X10_95 hd_X10_digit ⟨rfl, rfl⟩ (by decide) 0 rfl rfl rfl rfl hl.1 rfl (Nat.le_of_ble_eq_true rfl) dX10_many_79 ⟨Nat.le_of_ble_eq_true rfl, Nat.le_of_ble_eq_true rfl⟩ rfl (fun H locs hI => ?_)
      obtain ⟨t4, e4, hf⟩ := q_ob hf
      refine x_iast (pc := 82) (w' := (mw G h z_thrown z_s z_kept z_isKept z_moveMany z_moves z_hands z_troubles z_troubleSorts z_troubleNumbers t4 z_paint z_leasts z_isSeen z_classMany z_types z_typeCounts z_typeMany z_text z_signs z_at z_lacks z_clauses z_begun z_letters z_firsts z_seconds z_aside z_sorts z_sizes z_items)) X E hI 7 rfl e4 rfl dX10_many_82 (fun H locs hI => ?_)
      refine lv_iinc (pc := 83) (v := l6 + 1) (lv' := [(6, .int (l6 + 1)), (0, .ref (h 0)), (1, .int l1), (2, .int l2), (3, .long l3), (5, .int l5)]) hx hb dX10_many_83 hl (k := 5) rfl rfl (by decide) rfl (fun ls hl => ?_)
      refine lv_goto (pc := 86) (tgt := 57) hx hb dX10_many_86 (by decide) ?_
      exact ih hI (lv_sub hl [1, 2, 3, 4, 5, 0] rfl) hf

set_option maxHeartbeats 4000000 in
set_option maxRecDepth 100000 in
theorem k_X10_many_L99 {p : Program} {l : Launch} {e : Env} {s : State} {m : MethodId} {args : Array Value} {below : List Frame} {meth : Method} {c : Code} {A : Nat → Prop} {G : GX} {h : Nat → Nat} {l1 : Int32} {l2 : Int32} {l3 : Int64} {l5 : Int32} {z_thrown : Int32} {z_s : Nat → Int32} {z_kept : Nat → Int32} {z_isKept : Int32} {z_moveMany : Int32} {z_moves : Nat → Int32} {z_hands : Nat → Int32} {z_troubles : Int32} {z_troubleSorts : Nat → Int32} {z_troubleNumbers : Nat → Int32} {z_asked : Nat → Int32} {z_paint : Nat → Int32} {z_leasts : Nat → Int32} {z_isSeen : Nat → Int32} {z_classMany : Int32} {z_types : Nat → Int32} {z_typeCounts : Nat → Int32} {z_typeMany : Int32} {z_text : Nat → Int32} {z_signs : Int32} {z_at : Int32} {z_lacks : Int32} {z_clauses : Int32} {z_begun : Int32} {z_letters : Nat → Int32} {z_firsts : Nat → Int32} {z_seconds : Nat → Int32} {z_aside : Nat → Int32} {z_sorts : Nat → Int32} {z_sizes : Nat → Int32} {z_items : Nat → Int64} {K : Int64 → Int32 → Option (Int64 × Int32 × (Nat → Int32) × (Nat → Int32) × (Nat → Int32))} {res : Int64 × Int32 × (Nat → Int32) × (Nat → Int32) × (Nat → Int32)} (X : CX RX10 cX10_many 9 (some .long) p s m args meth c) (E : EX G A s)
    (hK : ∀ (l6 : Int64) (l8 : Int32) (H : Heap) (locs : List Loc) (ls : Array Slot), IN A G (mw G h z_thrown z_s z_kept z_isKept z_moveMany z_moves z_hands z_troubles z_troubleSorts z_troubleNumbers z_asked z_paint z_leasts z_isSeen z_classMany z_types z_typeCounts z_typeMany z_text z_signs z_at z_lacks z_clauses z_begun z_letters z_firsts z_seconds z_aside z_sorts z_sizes z_items) s H locs → lv_has ls 9 [(0, .ref (h 0)), (1, .int l1), (2, .int l2), (3, .long l3), (5, .int l5), (6, .long l6), (8, .int l8)] → K l6 l8 = some res → W p l e rm_X10_many s m args below meth c H locs 0 0 (MQ below (QX G A (mw G h z_thrown z_s z_kept z_isKept res.2.1 res.2.2.1 res.2.2.2.1 z_troubles z_troubleSorts z_troubleNumbers res.2.2.2.2 z_paint z_leasts z_isSeen z_classMany z_types z_typeCounts z_typeMany z_text z_signs z_at z_lacks z_clauses z_begun z_letters z_firsts z_seconds z_aside z_sorts z_sizes z_items) (some (.long res.1))) args s 0 0 A) (F0 m 117 ls [])) :
    ∀ {k : Nat} {l6 : Int64} {l8 : Int32} {H : Heap} {locs : List Loc} {ls : Array Slot}, IN A G (mw G h z_thrown z_s z_kept z_isKept z_moveMany z_moves z_hands z_troubles z_troubleSorts z_troubleNumbers z_asked z_paint z_leasts z_isSeen z_classMany z_types z_typeCounts z_typeMany z_text z_signs z_at z_lacks z_clauses z_begun z_letters z_firsts z_seconds z_aside z_sorts z_sizes z_items) s H locs → lv_has ls 9 [(0, .ref (h 0)), (1, .int l1), (2, .int l2), (3, .long l3), (5, .int l5), (6, .long l6), (8, .int l8)] → f_X10_many_L99 l1 l2 l3 l5 K k l6 l8 = some res → W p l e rm_X10_many s m args below meth c H locs 0 0 (MQ below (QX G A (mw G h z_thrown z_s z_kept z_isKept res.2.1 res.2.2.1 res.2.2.2.1 z_troubles z_troubleSorts z_troubleNumbers res.2.2.2.2 z_paint z_leasts z_isSeen z_classMany z_types z_typeCounts z_typeMany z_text z_signs z_at z_lacks z_clauses z_begun z_letters z_firsts z_seconds z_aside z_sorts z_sizes z_items) (some (.long res.1))) args s 0 0 A) (F0 m 99 ls []) := by
  obtain ⟨hx, hb, hml, hown, hts, hr, hlk⟩ := id X
  intro k
  induction k with
  | zero => intro l6 l8 H locs ls hI hl hf; exact nomatch (show none = some res from hf)
  | succ k ih =>
    intro l6 l8 H locs ls hI hl hf
    rw [f_X10_many_L99] at hf
    refine lv_iload (pc := 99) hx hb dX10_many_99 (lv_at hl 6 rfl) ?_
    refine lv_if_le (pc := 101) (tgt := 117) hx hb dX10_many_101 (by decide) (fun c1 => ?_) (fun c1 => ?_)
    · have hf := q_ip c1 hf
      exact hK _ _ _ _ _ hI (lv_sub hl [0, 1, 2, 3, 4, 5, 6] rfl) hf
    · have hf := q_in c1 hf
      refine lv_lload (pc := 104) hx hb dX10_many_104 (lv_at hl 5 rfl) ?_
      refine lv_iload_n (pc := 106) hx hb dX10_many_106 rfl (lv_at hl 2 rfl) ?_
      refine lv_i2l (pc := 107) (v := (l2 : Int32).toInt64) hx hb dX10_many_107 rfl ?_
      refine lv_lmul (pc := 108) hx hb dX10_many_108 ?_
      refine lv_lstore (pc := 109) (lv' := [(6, .long (l6 * ((l2 : Int32).toInt64))), (0, .ref (h 0)), (1, .int l1), (2, .int l2), (3, .long l3), (5, .int l5), (8, .int l8)]) hx hb dX10_many_109 hl (by decide) rfl (fun ls hl => ?_)
      refine lv_iinc (pc := 111) (v := l8 + (-1)) (lv' := [(8, .int (l8 + (-1))), (6, .long (l6 * ((l2 : Int32).toInt64))), (0, .ref (h 0)), (1, .int l1), (2, .int l2), (3, .long l3), (5, .int l5)]) hx hb dX10_many_111 hl (k := 6) rfl rfl (by decide) rfl (fun ls hl => ?_)
      refine lv_goto (pc := 114) (tgt := 99) hx hb dX10_many_114 (by decide) ?_
      exact ih hI (lv_sub hl [2, 3, 4, 5, 6, 1, 0] rfl) hf

set_option maxHeartbeats 4000000 in
set_option maxRecDepth 100000 in
theorem k_X10_many_L32 {p : Program} {l : Launch} {e : Env} {s : State} {m : MethodId} {args : Array Value} {below : List Frame} {meth : Method} {c : Code} {A : Nat → Prop} {G : GX} {h : Nat → Nat} {l1 : Int32} {l2 : Int32} {z_thrown : Int32} {z_s : Nat → Int32} {z_kept : Nat → Int32} {z_isKept : Int32} {z_moveMany : Int32} {z_moves : Nat → Int32} {z_hands : Nat → Int32} {z_troubles : Int32} {z_troubleSorts : Nat → Int32} {z_troubleNumbers : Nat → Int32} {z_paint : Nat → Int32} {z_leasts : Nat → Int32} {z_isSeen : Nat → Int32} {z_classMany : Int32} {z_types : Nat → Int32} {z_typeCounts : Nat → Int32} {z_typeMany : Int32} {z_text : Nat → Int32} {z_signs : Int32} {z_at : Int32} {z_lacks : Int32} {z_clauses : Int32} {z_begun : Int32} {z_letters : Nat → Int32} {z_firsts : Nat → Int32} {z_seconds : Nat → Int32} {z_aside : Nat → Int32} {z_sorts : Nat → Int32} {z_sizes : Nat → Int32} {z_items : Nat → Int64} {K : Int64 → Int32 → (Nat → Int32) → Option (Int64 × Int32 × (Nat → Int32) × (Nat → Int32) × (Nat → Int32))} {res : Int64 × Int32 × (Nat → Int32) × (Nat → Int32) × (Nat → Int32)} (X : CX RX10 cX10_many 9 (some .long) p s m args meth c) (E : EX G A s)
    (hK : ∀ (l3 : Int64) (l5 : Int32) (z_asked : (Nat → Int32)) (H : Heap) (locs : List Loc) (ls : Array Slot), IN A G (mw G h z_thrown z_s z_kept z_isKept z_moveMany z_moves z_hands z_troubles z_troubleSorts z_troubleNumbers z_asked z_paint z_leasts z_isSeen z_classMany z_types z_typeCounts z_typeMany z_text z_signs z_at z_lacks z_clauses z_begun z_letters z_firsts z_seconds z_aside z_sorts z_sizes z_items) s H locs → lv_has ls 9 [(0, .ref (h 0)), (1, .int l1), (2, .int l2), (3, .long l3), (5, .int l5)] → K l3 l5 z_asked = some res → W p l e rm_X10_many s m args below meth c H locs 0 0 (MQ below (QX G A (mw G h z_thrown z_s z_kept z_isKept res.2.1 res.2.2.1 res.2.2.2.1 z_troubles z_troubleSorts z_troubleNumbers res.2.2.2.2 z_paint z_leasts z_isSeen z_classMany z_types z_typeCounts z_typeMany z_text z_signs z_at z_lacks z_clauses z_begun z_letters z_firsts z_seconds z_aside z_sorts z_sizes z_items) (some (.long res.1))) args s 0 0 A) (F0 m 128 ls [])) :
    ∀ {k : Nat} {l3 : Int64} {l5 : Int32} {z_asked : (Nat → Int32)} {H : Heap} {locs : List Loc} {ls : Array Slot}, IN A G (mw G h z_thrown z_s z_kept z_isKept z_moveMany z_moves z_hands z_troubles z_troubleSorts z_troubleNumbers z_asked z_paint z_leasts z_isSeen z_classMany z_types z_typeCounts z_typeMany z_text z_signs z_at z_lacks z_clauses z_begun z_letters z_firsts z_seconds z_aside z_sorts z_sizes z_items) s H locs → lv_has ls 9 [(0, .ref (h 0)), (1, .int l1), (2, .int l2), (3, .long l3), (5, .int l5)] → f_X10_many_L32 l1 l2 z_s z_moveMany z_moves z_hands K k l3 l5 z_asked = some res → W p l e rm_X10_many s m args below meth c H locs 0 0 (MQ below (QX G A (mw G h z_thrown z_s z_kept z_isKept res.2.1 res.2.2.1 res.2.2.2.1 z_troubles z_troubleSorts z_troubleNumbers res.2.2.2.2 z_paint z_leasts z_isSeen z_classMany z_types z_typeCounts z_typeMany z_text z_signs z_at z_lacks z_clauses z_begun z_letters z_firsts z_seconds z_aside z_sorts z_sizes z_items) (some (.long res.1))) args s 0 0 A) (F0 m 32 ls []) := by
  obtain ⟨hx, hb, hml, hown, hts, hr, hlk⟩ := id X
  intro k
  induction k with
  | zero => intro l3 l5 z_asked H locs ls hI hl hf; exact nomatch (show none = some res from hf)
  | succ k ih =>
    intro l3 l5 z_asked H locs ls hI hl hf
    rw [f_X10_many_L32] at hf
    refine lv_iload (pc := 32) hx hb dX10_many_32 (lv_at hl 4 rfl) ?_
    refine lv_aload_n (pc := 34) hx hb dX10_many_34 rfl (lv_at hl 0 rfl) ?_
    refine x_get (pc := 35) X E hI inX10 0 rfl rfl 4 (by decide) tw_3_233 rfl dX10_many_35 ?_
    refine lv_icmp_ge (pc := 38) (tgt := 128) hx hb dX10_many_38 (by decide) (fun c1 => ?_) (fun c1 => ?_)
    · have hf := q_ip c1 hf
      exact hK _ _ _ _ _ _ hI (lv_sub hl [0, 1, 2, 3, 4] rfl) hf
    · have hf := q_in c1 hf
      refine lv_aload_n (pc := 41) hx hb dX10_many_41 rfl (lv_at hl 0 rfl) ?_
      refine lv_iload (pc := 42) hx hb dX10_many_42 (lv_at hl 4 rfl) ?_
      refine lv_iload_n (pc := 44) hx hb dX10_many_44 rfl (lv_at hl 1 rfl) ?_
      obtain ⟨t2, e2, hf⟩ := q_ob hf
      refine x_cVs (pc := 45) (st1 := [.int t2]) (w1 := (mw G h z_thrown z_s z_kept z_isKept z_moveMany z_moves z_hands z_troubles z_troubleSorts z_troubleNumbers z_asked z_paint z_leasts z_isSeen z_classMany z_types z_typeCounts z_typeMany z_text z_signs z_at z_lacks z_clauses z_begun z_letters z_firsts z_seconds z_aside z_sorts z_sizes z_items)) X E hI (c_X10_counts l G h e2) kv_X10_132 hd_X10_counts ⟨rfl, rfl⟩ (by decide) 0 rfl rfl rfl rfl hl.1 rfl (Nat.le_of_ble_eq_true rfl) dX10_many_45 ⟨Nat.le_of_ble_eq_true rfl, Nat.le_of_ble_eq_true rfl⟩ rfl (fun H locs hI => ?_)
      refine lv_if_ne (pc := 48) (tgt := 54) hx hb dX10_many_48 (by decide) (fun c3 => ?_) (fun c3 => ?_)
      · have hf := q_in c3 hf
        refine lv_iconst (pc := 54) (v := 0) hx hb dX10_many_54 (by decide) ?_
        refine lv_istore (pc := 55) (lv' := [(6, .int 0), (0, .ref (h 0)), (1, .int l1), (2, .int l2), (3, .long l3), (5, .int l5)]) hx hb dX10_many_55 hl (by decide) rfl (fun ls hl => ?_)
        refine k_X10_many_L57 X E (fun l6_4 z_asked_4 H locs ls hI hl hf => ?_) hI (lv_sub hl [1, 2, 3, 4, 5, 0] rfl) hf
        refine lv_lconst (pc := 89) (v := 1) hx hb dX10_many_89 (by decide) ?_
        refine lv_lstore (pc := 90) (lv' := [(6, .long 1), (0, .ref (h 0)), (1, .int l1), (2, .int l2), (3, .long l3), (5, .int l5)]) hx hb dX10_many_90 hl (by decide) rfl (fun ls hl => ?_)
        refine lv_aload_n (pc := 92) hx hb dX10_many_92 rfl (lv_at hl 1 rfl) ?_
        refine lv_iconst (pc := 93) (v := 0) hx hb dX10_many_93 (by decide) ?_
        obtain ⟨t5, e5, hf⟩ := q_ob hf
        refine x_cVs (pc := 94) (st1 := [.int t5]) (w1 := (mw G h z_thrown z_s z_kept z_isKept z_moveMany z_moves z_hands z_troubles z_troubleSorts z_troubleNumbers z_asked_4 z_paint z_leasts z_isSeen z_classMany z_types z_typeCounts z_typeMany z_text z_signs z_at z_lacks z_clauses z_begun z_letters z_firsts z_seconds z_aside z_sorts z_sizes z_items)) X E hI (c_X10_cycles l G h e5) kv_X10_144 hd_X10_cycles ⟨rfl, rfl⟩ (by decide) 0 rfl rfl rfl rfl hl.1 rfl (Nat.le_of_ble_eq_true rfl) dX10_many_94 ⟨Nat.le_of_ble_eq_true rfl, Nat.le_of_ble_eq_true rfl⟩ rfl (fun H locs hI => ?_)
        refine lv_istore (pc := 97) (lv' := [(8, .int t5), (6, .long 1), (0, .ref (h 0)), (1, .int l1), (2, .int l2), (3, .long l3), (5, .int l5)]) hx hb dX10_many_97 hl (by decide) rfl (fun ls hl => ?_)
        refine k_X10_many_L99 X E (fun l6_6 l8_6 H locs ls hI hl hf => ?_) hI (lv_sub hl [2, 3, 4, 5, 6, 1, 0] rfl) hf
        refine lv_lload_n (pc := 117) hx hb dX10_many_117 rfl (lv_at hl 3 rfl) ?_
        refine lv_lload (pc := 118) hx hb dX10_many_118 (lv_at hl 5 rfl) ?_
        refine lv_ladd (pc := 120) hx hb dX10_many_120 ?_
        refine lv_lstore_n (pc := 121) (lv' := [(3, .long (l3 + l6_6)), (0, .ref (h 0)), (1, .int l1), (2, .int l2), (5, .int l5), (6, .long l6_6), (8, .int l8_6)]) hx hb dX10_many_121 rfl hl (by decide) rfl (fun ls hl => ?_)
        refine lv_iinc (pc := 122) (v := l5 + 1) (lv' := [(5, .int (l5 + 1)), (3, .long (l3 + l6_6)), (0, .ref (h 0)), (1, .int l1), (2, .int l2), (6, .long l6_6), (8, .int l8_6)]) hx hb dX10_many_122 hl (k := 4) rfl rfl (by decide) rfl (fun ls hl => ?_)
        refine lv_goto (pc := 125) (tgt := 32) hx hb dX10_many_125 (by decide) ?_
        exact ih hI (lv_sub hl [2, 3, 4, 1, 0] rfl) hf
      · have hf := q_ip c3 hf
        refine lv_goto (pc := 51) (tgt := 122) hx hb dX10_many_51 (by decide) ?_
        refine lv_iinc (pc := 122) (v := l5 + 1) (lv' := [(5, .int (l5 + 1)), (0, .ref (h 0)), (1, .int l1), (2, .int l2), (3, .long l3)]) hx hb dX10_many_122 hl (k := 4) rfl rfl (by decide) rfl (fun ls hl => ?_)
        refine lv_goto (pc := 125) (tgt := 32) hx hb dX10_many_125 (by decide) ?_
        exact ih hI (lv_sub hl [1, 2, 3, 4, 0] rfl) hf

set_option maxHeartbeats 4000000 in
set_option maxRecDepth 100000 in
theorem c_X10_many (l : Launch) (G : GX) (h : Nat → Nat) {l1 : Int32} {l2 : Int32} {z_s : Nat → Int32} {z_moveMany : Int32} {z_moves : Nat → Int32} {z_hands : Nat → Int32} {z_asked : Nat → Int32} {z_thrown : Int32} {z_kept : Nat → Int32} {z_isKept : Int32} {z_troubles : Int32} {z_troubleSorts : Nat → Int32} {z_troubleNumbers : Nat → Int32} {z_paint : Nat → Int32} {z_leasts : Nat → Int32} {z_isSeen : Nat → Int32} {z_classMany : Int32} {z_types : Nat → Int32} {z_typeCounts : Nat → Int32} {z_typeMany : Int32} {z_text : Nat → Int32} {z_signs : Int32} {z_at : Int32} {z_lacks : Int32} {z_clauses : Int32} {z_begun : Int32} {z_letters : Nat → Int32} {z_firsts : Nat → Int32} {z_seconds : Nat → Int32} {z_aside : Nat → Int32} {z_sorts : Nat → Int32} {z_sizes : Nat → Int32} {z_items : Nat → Int64} {res : Int64 × Int32 × (Nat → Int32) × (Nat → Int32) × (Nat → Int32)} (hf : f_X10_many l1 l2 z_s z_moveMany z_moves z_hands z_asked = some res) : MX l yX10_many cX10_many 9 (some .long) rm_X10_many G (mw G h z_thrown z_s z_kept z_isKept z_moveMany z_moves z_hands z_troubles z_troubleSorts z_troubleNumbers z_asked z_paint z_leasts z_isSeen z_classMany z_types z_typeCounts z_typeMany z_text z_signs z_at z_lacks z_clauses z_begun z_letters z_firsts z_seconds z_aside z_sorts z_sizes z_items) [.ref (h 0), .int l1, .int l2] (mw G h z_thrown z_s z_kept z_isKept res.2.1 res.2.2.1 res.2.2.2.1 z_troubles z_troubleSorts z_troubleNumbers res.2.2.2.2 z_paint z_leasts z_isSeen z_classMany z_types z_typeCounts z_typeMany z_text z_signs z_at z_lacks z_clauses z_begun z_letters z_firsts z_seconds z_aside z_sorts z_sizes z_items) (some (.long res.1)) 0 0 := by
  refine MX.of (plainFor_of_name (by decide)) (Nat.le_of_ble_eq_true rfl) ?_
  intro p e s m below meth c A X E hI ls hl
  obtain ⟨hx, hb, hml, hown, hts, hr, hlk⟩ := id X
  have hl : lv_has ls 9 [(0, .ref (h 0)), (1, .int l1), (2, .int l2)] := hl
  unfold f_X10_many at hf
  refine lv_iload_n (pc := 0) hx hb dX10_many_0 rfl (lv_at hl 1 rfl) ?_
  obtain ⟨t1, e1, hf⟩ := q_ob hf
  refine x_cSn (pc := 1) (st1 := [.int t1]) X E hI (c_X10_isBy l G e1) ks_X10_222 hd_X10_isBy ⟨rfl, rfl⟩ (by decide) rfl hl.1 rfl (Nat.le_of_ble_eq_true rfl) dX10_many_1 ⟨Nat.le_of_ble_eq_true rfl, Nat.le_of_ble_eq_true rfl⟩ rfl (fun H locs hI => ?_)
  refine lv_if_eq (pc := 4) (tgt := 19) hx hb dX10_many_4 (by decide) (fun c2 => ?_) (fun c2 => ?_)
  · have hf := q_ip c2 hf
    refine lv_ldc2 (pc := 19) (v := (-9223372036854775808)) hx hb hown (hts _ tw_5_47) dX10_many_19 ?_
    obtain rfl := Option.some.inj hf
    exact x_lret X hI dX10_many_22
  · have hf := q_in c2 hf
    refine lv_iload_n (pc := 7) hx hb dX10_many_7 rfl (lv_at hl 2 rfl) ?_
    refine lv_i2l (pc := 8) (v := (l2 : Int32).toInt64) hx hb dX10_many_8 rfl ?_
    refine lv_lconst (pc := 9) (v := 0) hx hb dX10_many_9 (by decide) ?_
    refine lv_ldc2 (pc := 10) (v := 9) hx hb hown (hts _ tw_4_103) dX10_many_10 ?_
    obtain ⟨t3, e3, hf⟩ := q_ob hf
    refine x_cSn (pc := 13) (st1 := [.int t3]) X E hI (c_X10_in l G e3) ks_X10_85 hd_X10_in ⟨rfl, rfl⟩ (by decide) rfl hl.1 rfl (Nat.le_of_ble_eq_true rfl) dX10_many_13 ⟨Nat.le_of_ble_eq_true rfl, Nat.le_of_ble_eq_true rfl⟩ rfl (fun H locs hI => ?_)
    refine lv_if_ne (pc := 16) (tgt := 23) hx hb dX10_many_16 (by decide) (fun c4 => ?_) (fun c4 => ?_)
    · have hf := q_in c4 hf
      refine lv_aload_n (pc := 23) hx hb dX10_many_23 rfl (lv_at hl 0 rfl) ?_
      obtain ⟨t5, e5, hf⟩ := q_ob hf
      refine x_cVs (pc := 24) (st1 := []) (w1 := (mw G h z_thrown z_s z_kept z_isKept t5.1 t5.2.1 t5.2.2 z_troubles z_troubleSorts z_troubleNumbers z_asked z_paint z_leasts z_isSeen z_classMany z_types z_typeCounts z_typeMany z_text z_signs z_at z_lacks z_clauses z_begun z_letters z_firsts z_seconds z_aside z_sorts z_sizes z_items)) X E hI (c_X10_moves_ l G h e5) kv_X10_163 hd_X10_moves_ ⟨rfl, rfl⟩ (by decide) 0 rfl rfl rfl rfl hl.1 rfl (Nat.le_of_ble_eq_true rfl) dX10_many_24 ⟨Nat.le_of_ble_eq_true rfl, Nat.le_of_ble_eq_true rfl⟩ rfl (fun H locs hI => ?_)
      refine lv_lconst (pc := 27) (v := 0) hx hb dX10_many_27 (by decide) ?_
      refine lv_lstore_n (pc := 28) (lv' := [(3, .long 0), (0, .ref (h 0)), (1, .int l1), (2, .int l2)]) hx hb dX10_many_28 rfl hl (by decide) rfl (fun ls hl => ?_)
      refine lv_iconst (pc := 29) (v := 0) hx hb dX10_many_29 (by decide) ?_
      refine lv_istore (pc := 30) (lv' := [(5, .int 0), (3, .long 0), (0, .ref (h 0)), (1, .int l1), (2, .int l2)]) hx hb dX10_many_30 hl (by decide) rfl (fun ls hl => ?_)
      refine k_X10_many_L32 X E (fun l3_6 l5_6 z_asked_6 H locs ls hI hl hf => ?_) hI (lv_sub hl [2, 3, 4, 1, 0] rfl) hf
      refine lv_lload_n (pc := 128) hx hb dX10_many_128 rfl (lv_at hl 3 rfl) ?_
      refine lv_aload_n (pc := 129) hx hb dX10_many_129 rfl (lv_at hl 0 rfl) ?_
      refine lv_iload_n (pc := 130) hx hb dX10_many_130 rfl (lv_at hl 1 rfl) ?_
      obtain ⟨t7, e7, hf⟩ := q_ob hf
      refine x_cVs (pc := 131) (st1 := [.int t7, .long l3_6]) (w1 := (mw G h z_thrown z_s z_kept z_isKept t5.1 t5.2.1 t5.2.2 z_troubles z_troubleSorts z_troubleNumbers z_asked_6 z_paint z_leasts z_isSeen z_classMany z_types z_typeCounts z_typeMany z_text z_signs z_at z_lacks z_clauses z_begun z_letters z_firsts z_seconds z_aside z_sorts z_sizes z_items)) X E hI (c_X10_manyOf l G h e7) kv_X10_180 hd_X10_manyOf ⟨rfl, rfl⟩ (by decide) 0 rfl rfl rfl rfl hl.1 rfl (Nat.le_of_ble_eq_true rfl) dX10_many_131 ⟨Nat.le_of_ble_eq_true rfl, Nat.le_of_ble_eq_true rfl⟩ rfl (fun H locs hI => ?_)
      refine lv_i2l (pc := 134) (v := (t7 : Int32).toInt64) hx hb dX10_many_134 rfl ?_
      obtain ⟨t8, e8, hf⟩ := q_ob hf
      refine x_ldiv (pc := 135) X e8 dX10_many_135 ?_
      obtain rfl := Option.some.inj hf
      exact x_lret X hI dX10_many_136
    · have hf := q_ip c4 hf
      refine lv_ldc2 (pc := 19) (v := (-9223372036854775808)) hx hb hown (hts _ tw_5_47) dX10_many_19 ?_
      obtain rfl := Option.some.inj hf
      exact x_lret X hI dX10_many_22

abbrev rm_X10_least : Room := { frames := 6, cells := 0, slots := 0, locals := 132 }
set_option maxHeartbeats 4000000 in
set_option maxRecDepth 100000 in
theorem c_X10_least (l : Launch) (G : GX) (h : Nat → Nat) {l1 : Int32} {l2 : Int32} {z_s : Nat → Int32} {z_moveMany : Int32} {z_moves : Nat → Int32} {z_hands : Nat → Int32} {z_paint : Nat → Int32} {z_thrown : Int32} {z_kept : Nat → Int32} {z_isKept : Int32} {z_troubles : Int32} {z_troubleSorts : Nat → Int32} {z_troubleNumbers : Nat → Int32} {z_asked : Nat → Int32} {z_leasts : Nat → Int32} {z_isSeen : Nat → Int32} {z_classMany : Int32} {z_types : Nat → Int32} {z_typeCounts : Nat → Int32} {z_typeMany : Int32} {z_text : Nat → Int32} {z_signs : Int32} {z_at : Int32} {z_lacks : Int32} {z_clauses : Int32} {z_begun : Int32} {z_letters : Nat → Int32} {z_firsts : Nat → Int32} {z_seconds : Nat → Int32} {z_aside : Nat → Int32} {z_sorts : Nat → Int32} {z_sizes : Nat → Int32} {z_items : Nat → Int64} {res : Int32 × Int32 × (Nat → Int32) × (Nat → Int32) × (Nat → Int32)} (hf : f_X10_least l1 l2 z_s z_moveMany z_moves z_hands z_paint = some res) : MX l yX10_least cX10_least 4 (some .int) rm_X10_least G (mw G h z_thrown z_s z_kept z_isKept z_moveMany z_moves z_hands z_troubles z_troubleSorts z_troubleNumbers z_asked z_paint z_leasts z_isSeen z_classMany z_types z_typeCounts z_typeMany z_text z_signs z_at z_lacks z_clauses z_begun z_letters z_firsts z_seconds z_aside z_sorts z_sizes z_items) [.ref (h 0), .int l1, .int l2] (mw G h z_thrown z_s z_kept z_isKept res.2.1 res.2.2.1 res.2.2.2.1 z_troubles z_troubleSorts z_troubleNumbers z_asked res.2.2.2.2 z_leasts z_isSeen z_classMany z_types z_typeCounts z_typeMany z_text z_signs z_at z_lacks z_clauses z_begun z_letters z_firsts z_seconds z_aside z_sorts z_sizes z_items) (some (.int res.1)) 0 0 := by
  refine MX.of (plainFor_of_name (by decide)) (Nat.le_of_ble_eq_true rfl) ?_
  intro p e s m below meth c A X E hI ls hl
  obtain ⟨hx, hb, hml, hown, hts, hr, hlk⟩ := id X
  have hl : lv_has ls 4 [(0, .ref (h 0)), (1, .int l1), (2, .int l2)] := hl
  unfold f_X10_least at hf
  refine lv_iload_n (pc := 0) hx hb dX10_least_0 rfl (lv_at hl 1 rfl) ?_
  obtain ⟨t1, e1, hf⟩ := q_ob hf
  refine x_cSn (pc := 1) (st1 := [.int t1]) X E hI (c_X10_isBy l G e1) ks_X10_222 hd_X10_isBy ⟨rfl, rfl⟩ (by decide) rfl hl.1 rfl (Nat.le_of_ble_eq_true rfl) dX10_least_1 ⟨Nat.le_of_ble_eq_true rfl, Nat.le_of_ble_eq_true rfl⟩ rfl (fun H locs hI => ?_)
  refine lv_if_ne (pc := 4) (tgt := 9) hx hb dX10_least_4 (by decide) (fun c2 => ?_) (fun c2 => ?_)
  · have hf := q_in c2 hf
    refine lv_aload_n (pc := 9) hx hb dX10_least_9 rfl (lv_at hl 0 rfl) ?_
    refine lv_iload_n (pc := 10) hx hb dX10_least_10 rfl (lv_at hl 2 rfl) ?_
    obtain ⟨t3, e3, hf⟩ := q_ob hf
    refine x_cVs (pc := 11) (st1 := [.int t3]) (w1 := (mw G h z_thrown z_s z_kept z_isKept z_moveMany z_moves z_hands z_troubles z_troubleSorts z_troubleNumbers z_asked z_paint z_leasts z_isSeen z_classMany z_types z_typeCounts z_typeMany z_text z_signs z_at z_lacks z_clauses z_begun z_letters z_firsts z_seconds z_aside z_sorts z_sizes z_items)) X E hI (c_X10_indexOf l G h e3) kv_X10_233 hd_X10_indexOf ⟨rfl, rfl⟩ (by decide) 0 rfl rfl rfl rfl hl.1 rfl (Nat.le_of_ble_eq_true rfl) dX10_least_11 ⟨Nat.le_of_ble_eq_true rfl, Nat.le_of_ble_eq_true rfl⟩ rfl (fun H locs hI => ?_)
    refine lv_istore_n (pc := 14) (lv' := [(3, .int t3), (0, .ref (h 0)), (1, .int l1), (2, .int l2)]) hx hb dX10_least_14 rfl hl (by decide) rfl (fun ls hl => ?_)
    refine lv_iload_n (pc := 15) hx hb dX10_least_15 rfl (lv_at hl 0 rfl) ?_
    refine lv_iconst (pc := 16) (v := (-1)) hx hb dX10_least_16 (by decide) ?_
    refine lv_icmp_ne (pc := 17) (tgt := 23) hx hb dX10_least_17 (by decide) (fun c4 => ?_) (fun c4 => ?_)
    · have hf := q_in c4 hf
      refine lv_aload_n (pc := 23) hx hb dX10_least_23 rfl (lv_at hl 1 rfl) ?_
      obtain ⟨t5, e5, hf⟩ := q_ob hf
      refine x_cVs (pc := 24) (st1 := []) (w1 := (mw G h z_thrown z_s z_kept z_isKept t5.1 t5.2.1 t5.2.2 z_troubles z_troubleSorts z_troubleNumbers z_asked z_paint z_leasts z_isSeen z_classMany z_types z_typeCounts z_typeMany z_text z_signs z_at z_lacks z_clauses z_begun z_letters z_firsts z_seconds z_aside z_sorts z_sizes z_items)) X E hI (c_X10_moves_ l G h e5) kv_X10_163 hd_X10_moves_ ⟨rfl, rfl⟩ (by decide) 0 rfl rfl rfl rfl hl.1 rfl (Nat.le_of_ble_eq_true rfl) dX10_least_24 ⟨Nat.le_of_ble_eq_true rfl, Nat.le_of_ble_eq_true rfl⟩ rfl (fun H locs hI => ?_)
      refine lv_aload_n (pc := 27) hx hb dX10_least_27 rfl (lv_at hl 1 rfl) ?_
      refine lv_aload_n (pc := 28) hx hb dX10_least_28 rfl (lv_at hl 1 rfl) ?_
      refine lv_iload_n (pc := 29) hx hb dX10_least_29 rfl (lv_at hl 2 rfl) ?_
      refine lv_iload_n (pc := 30) hx hb dX10_least_30 rfl (lv_at hl 0 rfl) ?_
      obtain ⟨t6, e6, hf⟩ := q_ob hf
      refine x_cVs (pc := 31) (st1 := [.int t6.1, .ref (h 0)]) (w1 := (mw G h z_thrown z_s z_kept z_isKept t5.1 t5.2.1 t5.2.2 z_troubles z_troubleSorts z_troubleNumbers z_asked t6.2 z_leasts z_isSeen z_classMany z_types z_typeCounts z_typeMany z_text z_signs z_at z_lacks z_clauses z_begun z_letters z_firsts z_seconds z_aside z_sorts z_sizes z_items)) X E hI (c_X10_leastOf l G h e6) kv_X10_195 hd_X10_leastOf ⟨rfl, rfl⟩ (by decide) 0 rfl rfl rfl rfl hl.1 rfl (Nat.le_of_ble_eq_true rfl) dX10_least_31 ⟨Nat.le_of_ble_eq_true rfl, Nat.le_of_ble_eq_true rfl⟩ rfl (fun H locs hI => ?_)
      obtain ⟨t7, e7, hf⟩ := q_ob hf
      refine x_cVs (pc := 34) (st1 := [.int t7.1]) (w1 := (mw G h z_thrown z_s z_kept z_isKept t5.1 t5.2.1 t5.2.2 z_troubles z_troubleSorts z_troubleNumbers z_asked t7.2 z_leasts z_isSeen z_classMany z_types z_typeCounts z_typeMany z_text z_signs z_at z_lacks z_clauses z_begun z_letters z_firsts z_seconds z_aside z_sorts z_sizes z_items)) X E hI (c_X10_tellsPainting l G h e7) kv_X10_236 hd_X10_tellsPainting ⟨rfl, rfl⟩ (by decide) 0 rfl rfl rfl rfl hl.1 rfl (Nat.le_of_ble_eq_true rfl) dX10_least_34 ⟨Nat.le_of_ble_eq_true rfl, Nat.le_of_ble_eq_true rfl⟩ rfl (fun H locs hI => ?_)
      obtain rfl := Option.some.inj hf
      exact x_iret X hI dX10_least_37
    · have hf := q_ip c4 hf
      refine lv_bipush (pc := 20) (v := (-2)) hx hb dX10_least_20 (by decide) ?_
      obtain rfl := Option.some.inj hf
      exact x_iret X hI dX10_least_22
  · have hf := q_ip c2 hf
    refine lv_iconst (pc := 7) (v := (-1)) hx hb dX10_least_7 (by decide) ?_
    obtain rfl := Option.some.inj hf
    exact x_iret X hI dX10_least_8

abbrev rm_X10_size : Room := { frames := 6, cells := 0, slots := 0, locals := 132 }
set_option maxHeartbeats 4000000 in
set_option maxRecDepth 100000 in
theorem c_X10_size (l : Launch) (G : GX) (h : Nat → Nat) {l1 : Int32} {l2 : Int32} {z_s : Nat → Int32} {z_moveMany : Int32} {z_moves : Nat → Int32} {z_hands : Nat → Int32} {z_paint : Nat → Int32} {z_thrown : Int32} {z_kept : Nat → Int32} {z_isKept : Int32} {z_troubles : Int32} {z_troubleSorts : Nat → Int32} {z_troubleNumbers : Nat → Int32} {z_asked : Nat → Int32} {z_leasts : Nat → Int32} {z_isSeen : Nat → Int32} {z_classMany : Int32} {z_types : Nat → Int32} {z_typeCounts : Nat → Int32} {z_typeMany : Int32} {z_text : Nat → Int32} {z_signs : Int32} {z_at : Int32} {z_lacks : Int32} {z_clauses : Int32} {z_begun : Int32} {z_letters : Nat → Int32} {z_firsts : Nat → Int32} {z_seconds : Nat → Int32} {z_aside : Nat → Int32} {z_sorts : Nat → Int32} {z_sizes : Nat → Int32} {z_items : Nat → Int64} {res : Int32 × Int32 × (Nat → Int32) × (Nat → Int32) × (Nat → Int32)} (hf : f_X10_size l1 l2 z_s z_moveMany z_moves z_hands z_paint = some res) : MX l yX10_size cX10_size 4 (some .int) rm_X10_size G (mw G h z_thrown z_s z_kept z_isKept z_moveMany z_moves z_hands z_troubles z_troubleSorts z_troubleNumbers z_asked z_paint z_leasts z_isSeen z_classMany z_types z_typeCounts z_typeMany z_text z_signs z_at z_lacks z_clauses z_begun z_letters z_firsts z_seconds z_aside z_sorts z_sizes z_items) [.ref (h 0), .int l1, .int l2] (mw G h z_thrown z_s z_kept z_isKept res.2.1 res.2.2.1 res.2.2.2.1 z_troubles z_troubleSorts z_troubleNumbers z_asked res.2.2.2.2 z_leasts z_isSeen z_classMany z_types z_typeCounts z_typeMany z_text z_signs z_at z_lacks z_clauses z_begun z_letters z_firsts z_seconds z_aside z_sorts z_sizes z_items) (some (.int res.1)) 0 0 := by
  refine MX.of (plainFor_of_name (by decide)) (Nat.le_of_ble_eq_true rfl) ?_
  intro p e s m below meth c A X E hI ls hl
  obtain ⟨hx, hb, hml, hown, hts, hr, hlk⟩ := id X
  have hl : lv_has ls 4 [(0, .ref (h 0)), (1, .int l1), (2, .int l2)] := hl
  unfold f_X10_size at hf
  refine lv_iload_n (pc := 0) hx hb dX10_size_0 rfl (lv_at hl 1 rfl) ?_
  obtain ⟨t1, e1, hf⟩ := q_ob hf
  refine x_cSn (pc := 1) (st1 := [.int t1]) X E hI (c_X10_isBy l G e1) ks_X10_222 hd_X10_isBy ⟨rfl, rfl⟩ (by decide) rfl hl.1 rfl (Nat.le_of_ble_eq_true rfl) dX10_size_1 ⟨Nat.le_of_ble_eq_true rfl, Nat.le_of_ble_eq_true rfl⟩ rfl (fun H locs hI => ?_)
  refine lv_if_ne (pc := 4) (tgt := 9) hx hb dX10_size_4 (by decide) (fun c2 => ?_) (fun c2 => ?_)
  · have hf := q_in c2 hf
    refine lv_aload_n (pc := 9) hx hb dX10_size_9 rfl (lv_at hl 0 rfl) ?_
    refine lv_iload_n (pc := 10) hx hb dX10_size_10 rfl (lv_at hl 2 rfl) ?_
    obtain ⟨t3, e3, hf⟩ := q_ob hf
    refine x_cVs (pc := 11) (st1 := [.int t3]) (w1 := (mw G h z_thrown z_s z_kept z_isKept z_moveMany z_moves z_hands z_troubles z_troubleSorts z_troubleNumbers z_asked z_paint z_leasts z_isSeen z_classMany z_types z_typeCounts z_typeMany z_text z_signs z_at z_lacks z_clauses z_begun z_letters z_firsts z_seconds z_aside z_sorts z_sizes z_items)) X E hI (c_X10_indexOf l G h e3) kv_X10_233 hd_X10_indexOf ⟨rfl, rfl⟩ (by decide) 0 rfl rfl rfl rfl hl.1 rfl (Nat.le_of_ble_eq_true rfl) dX10_size_11 ⟨Nat.le_of_ble_eq_true rfl, Nat.le_of_ble_eq_true rfl⟩ rfl (fun H locs hI => ?_)
    refine lv_istore_n (pc := 14) (lv' := [(3, .int t3), (0, .ref (h 0)), (1, .int l1), (2, .int l2)]) hx hb dX10_size_14 rfl hl (by decide) rfl (fun ls hl => ?_)
    refine lv_iload_n (pc := 15) hx hb dX10_size_15 rfl (lv_at hl 0 rfl) ?_
    refine lv_iconst (pc := 16) (v := (-1)) hx hb dX10_size_16 (by decide) ?_
    refine lv_icmp_ne (pc := 17) (tgt := 23) hx hb dX10_size_17 (by decide) (fun c4 => ?_) (fun c4 => ?_)
    · have hf := q_in c4 hf
      refine lv_aload_n (pc := 23) hx hb dX10_size_23 rfl (lv_at hl 1 rfl) ?_
      obtain ⟨t5, e5, hf⟩ := q_ob hf
      refine x_cVs (pc := 24) (st1 := []) (w1 := (mw G h z_thrown z_s z_kept z_isKept t5.1 t5.2.1 t5.2.2 z_troubles z_troubleSorts z_troubleNumbers z_asked z_paint z_leasts z_isSeen z_classMany z_types z_typeCounts z_typeMany z_text z_signs z_at z_lacks z_clauses z_begun z_letters z_firsts z_seconds z_aside z_sorts z_sizes z_items)) X E hI (c_X10_moves_ l G h e5) kv_X10_163 hd_X10_moves_ ⟨rfl, rfl⟩ (by decide) 0 rfl rfl rfl rfl hl.1 rfl (Nat.le_of_ble_eq_true rfl) dX10_size_24 ⟨Nat.le_of_ble_eq_true rfl, Nat.le_of_ble_eq_true rfl⟩ rfl (fun H locs hI => ?_)
      refine lv_aload_n (pc := 27) hx hb dX10_size_27 rfl (lv_at hl 1 rfl) ?_
      refine lv_iload_n (pc := 28) hx hb dX10_size_28 rfl (lv_at hl 2 rfl) ?_
      refine lv_iload_n (pc := 29) hx hb dX10_size_29 rfl (lv_at hl 0 rfl) ?_
      obtain ⟨t6, e6, hf⟩ := q_ob hf
      refine x_cVs (pc := 30) (st1 := [.int t6.1]) (w1 := (mw G h z_thrown z_s z_kept z_isKept t5.1 t5.2.1 t5.2.2 z_troubles z_troubleSorts z_troubleNumbers z_asked t6.2 z_leasts z_isSeen z_classMany z_types z_typeCounts z_typeMany z_text z_signs z_at z_lacks z_clauses z_begun z_letters z_firsts z_seconds z_aside z_sorts z_sizes z_items)) X E hI (c_X10_sizeOf l G h e6) kv_X10_239 hd_X10_sizeOf ⟨rfl, rfl⟩ (by decide) 0 rfl rfl rfl rfl hl.1 rfl (Nat.le_of_ble_eq_true rfl) dX10_size_30 ⟨Nat.le_of_ble_eq_true rfl, Nat.le_of_ble_eq_true rfl⟩ rfl (fun H locs hI => ?_)
      obtain rfl := Option.some.inj hf
      exact x_iret X hI dX10_size_33
    · have hf := q_ip c4 hf
      refine lv_bipush (pc := 20) (v := (-2)) hx hb dX10_size_20 (by decide) ?_
      obtain rfl := Option.some.inj hf
      exact x_iret X hI dX10_size_22
  · have hf := q_ip c2 hf
    refine lv_iconst (pc := 7) (v := (-1)) hx hb dX10_size_7 (by decide) ?_
    obtain rfl := Option.some.inj hf
    exact x_iret X hI dX10_size_8

abbrev rm_X10_heavyOf : Room := { frames := 1, cells := 0, slots := 0, locals := 23 }
set_option maxHeartbeats 4000000 in
set_option maxRecDepth 100000 in
theorem k_X10_heavyOf_L9 {p : Program} {l : Launch} {e : Env} {s : State} {m : MethodId} {args : Array Value} {below : List Frame} {meth : Method} {c : Code} {A : Nat → Prop} {G : GX} {h : Nat → Nat} {z_thrown : Int32} {z_s : Nat → Int32} {z_kept : Nat → Int32} {z_isKept : Int32} {z_moveMany : Int32} {z_moves : Nat → Int32} {z_hands : Nat → Int32} {z_troubles : Int32} {z_troubleSorts : Nat → Int32} {z_troubleNumbers : Nat → Int32} {z_asked : Nat → Int32} {z_paint : Nat → Int32} {z_leasts : Nat → Int32} {z_isSeen : Nat → Int32} {z_classMany : Int32} {z_types : Nat → Int32} {z_typeCounts : Nat → Int32} {z_typeMany : Int32} {z_text : Nat → Int32} {z_signs : Int32} {z_at : Int32} {z_lacks : Int32} {z_clauses : Int32} {z_begun : Int32} {z_letters : Nat → Int32} {z_firsts : Nat → Int32} {z_seconds : Nat → Int32} {z_aside : Nat → Int32} {z_sorts : Nat → Int32} {z_sizes : Nat → Int32} {z_items : Nat → Int64} {K : Int32 → Int32 → Option (Int32 × (Nat → Int32))} {res : Int32 × (Nat → Int32)} (X : CX RX10 cX10_heavyOf 4 (some .int) p s m args meth c) (E : EX G A s)
    (hK : ∀ (l2 : Int32) (l3 : Int32) (H : Heap) (locs : List Loc) (ls : Array Slot), IN A G (mw G h z_thrown z_s z_kept z_isKept z_moveMany z_moves z_hands z_troubles z_troubleSorts z_troubleNumbers z_asked z_paint z_leasts z_isSeen z_classMany z_types z_typeCounts z_typeMany z_text z_signs z_at z_lacks z_clauses z_begun z_letters z_firsts z_seconds z_aside z_sorts z_sizes z_items) s H locs → lv_has ls 4 [(0, .ref (h 0)), (2, .int l2), (3, .int l3)] → K l2 l3 = some res → W p l e rm_X10_heavyOf s m args below meth c H locs 0 0 (MQ below (QX G A (mw G h z_thrown z_s z_kept z_isKept z_moveMany z_moves z_hands z_troubles z_troubleSorts z_troubleNumbers z_asked res.2 z_leasts z_isSeen z_classMany z_types z_typeCounts z_typeMany z_text z_signs z_at z_lacks z_clauses z_begun z_letters z_firsts z_seconds z_aside z_sorts z_sizes z_items) (some (.int res.1))) args s 0 0 A) (F0 m 41 ls [])) :
    ∀ {k : Nat} {l2 : Int32} {l3 : Int32} {H : Heap} {locs : List Loc} {ls : Array Slot}, IN A G (mw G h z_thrown z_s z_kept z_isKept z_moveMany z_moves z_hands z_troubles z_troubleSorts z_troubleNumbers z_asked z_paint z_leasts z_isSeen z_classMany z_types z_typeCounts z_typeMany z_text z_signs z_at z_lacks z_clauses z_begun z_letters z_firsts z_seconds z_aside z_sorts z_sizes z_items) s H locs → lv_has ls 4 [(0, .ref (h 0)), (2, .int l2), (3, .int l3)] → f_X10_heavyOf_L9 z_s z_paint K k l2 l3 = some res → W p l e rm_X10_heavyOf s m args below meth c H locs 0 0 (MQ below (QX G A (mw G h z_thrown z_s z_kept z_isKept z_moveMany z_moves z_hands z_troubles z_troubleSorts z_troubleNumbers z_asked res.2 z_leasts z_isSeen z_classMany z_types z_typeCounts z_typeMany z_text z_signs z_at z_lacks z_clauses z_begun z_letters z_firsts z_seconds z_aside z_sorts z_sizes z_items) (some (.int res.1))) args s 0 0 A) (F0 m 9 ls []) := by
  obtain ⟨hx, hb, hml, hown, hts, hr, hlk⟩ := id X
  intro k
  induction k with
  | zero => intro l2 l3 H locs ls hI hl hf; exact nomatch (show none = some res from hf)
  | succ k ih =>
    intro l2 l3 H locs ls hI hl hf
    rw [f_X10_heavyOf_L9] at hf
    refine lv_iload_n (pc := 9) hx hb dX10_heavyOf_9 rfl (lv_at hl 2 rfl) ?_
    refine lv_aload_n (pc := 10) hx hb dX10_heavyOf_10 rfl (lv_at hl 0 rfl) ?_
    refine x_get (pc := 11) X E hI inX10 0 rfl rfl 1 (by decide) tw_3_230 rfl dX10_heavyOf_11 ?_
    refine lv_iconst (pc := 14) (v := 0) hx hb dX10_heavyOf_14 (by decide) ?_
    obtain ⟨t1, e1, hf⟩ := q_ob hf
    refine x_iald (pc := 15) X E hI 1 rfl e1 dX10_heavyOf_15 ?_
    refine lv_icmp_ge (pc := 16) (tgt := 41) hx hb dX10_heavyOf_16 (by decide) (fun c2 => ?_) (fun c2 => ?_)
    · have hf := q_ip c2 hf
      exact hK _ _ _ _ _ hI (lv_sub hl [0, 1, 2] rfl) hf
    · have hf := q_in c2 hf
      refine lv_iload_n (pc := 19) hx hb dX10_heavyOf_19 rfl (lv_at hl 1 rfl) ?_
      refine lv_aload_n (pc := 20) hx hb dX10_heavyOf_20 rfl (lv_at hl 0 rfl) ?_
      refine x_get (pc := 21) X E hI inX10 0 rfl rfl 1 (by decide) tw_3_230 rfl dX10_heavyOf_21 ?_
      refine lv_iconst (pc := 24) (v := 5) hx hb dX10_heavyOf_24 (by decide) ?_
      refine lv_aload_n (pc := 25) hx hb dX10_heavyOf_25 rfl (lv_at hl 0 rfl) ?_
      refine x_get (pc := 26) X E hI inX10 0 rfl rfl 11 (by decide) tw_4_0 rfl dX10_heavyOf_26 ?_
      refine lv_iload_n (pc := 29) hx hb dX10_heavyOf_29 rfl (lv_at hl 2 rfl) ?_
      obtain ⟨t3, e3, hf⟩ := q_ob hf
      refine x_iald (pc := 30) X E hI 8 rfl e3 dX10_heavyOf_30 ?_
      refine lv_iadd (pc := 31) hx hb dX10_heavyOf_31 ?_
      obtain ⟨t4, e4, hf⟩ := q_ob hf
      refine x_iald (pc := 32) X E hI 1 rfl e4 dX10_heavyOf_32 ?_
      refine lv_iadd (pc := 33) hx hb dX10_heavyOf_33 ?_
      refine lv_istore_n (pc := 34) (lv' := [(2, .int (l2 + t4)), (0, .ref (h 0)), (3, .int l3)]) hx hb dX10_heavyOf_34 rfl hl (by decide) rfl (fun ls hl => ?_)
      refine lv_iinc (pc := 35) (v := l3 + 1) (lv' := [(3, .int (l3 + 1)), (2, .int (l2 + t4)), (0, .ref (h 0))]) hx hb dX10_heavyOf_35 hl (k := 2) rfl rfl (by decide) rfl (fun ls hl => ?_)
      refine lv_goto (pc := 38) (tgt := 9) hx hb dX10_heavyOf_38 (by decide) ?_
      exact ih hI (lv_sub hl [2, 1, 0] rfl) hf

set_option maxHeartbeats 4000000 in
set_option maxRecDepth 100000 in
theorem c_X10_heavyOf (l : Launch) (G : GX) (h : Nat → Nat) {l1 : Int32} {z_s : Nat → Int32} {z_paint : Nat → Int32} {z_thrown : Int32} {z_kept : Nat → Int32} {z_isKept : Int32} {z_moveMany : Int32} {z_moves : Nat → Int32} {z_hands : Nat → Int32} {z_troubles : Int32} {z_troubleSorts : Nat → Int32} {z_troubleNumbers : Nat → Int32} {z_asked : Nat → Int32} {z_leasts : Nat → Int32} {z_isSeen : Nat → Int32} {z_classMany : Int32} {z_types : Nat → Int32} {z_typeCounts : Nat → Int32} {z_typeMany : Int32} {z_text : Nat → Int32} {z_signs : Int32} {z_at : Int32} {z_lacks : Int32} {z_clauses : Int32} {z_begun : Int32} {z_letters : Nat → Int32} {z_firsts : Nat → Int32} {z_seconds : Nat → Int32} {z_aside : Nat → Int32} {z_sorts : Nat → Int32} {z_sizes : Nat → Int32} {z_items : Nat → Int64} {res : Int32 × (Nat → Int32)} (hf : f_X10_heavyOf l1 z_s z_paint = some res) : MX l yX10_heavyOf cX10_heavyOf 4 (some .int) rm_X10_heavyOf G (mw G h z_thrown z_s z_kept z_isKept z_moveMany z_moves z_hands z_troubles z_troubleSorts z_troubleNumbers z_asked z_paint z_leasts z_isSeen z_classMany z_types z_typeCounts z_typeMany z_text z_signs z_at z_lacks z_clauses z_begun z_letters z_firsts z_seconds z_aside z_sorts z_sizes z_items) [.ref (h 0), .int l1] (mw G h z_thrown z_s z_kept z_isKept z_moveMany z_moves z_hands z_troubles z_troubleSorts z_troubleNumbers z_asked res.2 z_leasts z_isSeen z_classMany z_types z_typeCounts z_typeMany z_text z_signs z_at z_lacks z_clauses z_begun z_letters z_firsts z_seconds z_aside z_sorts z_sizes z_items) (some (.int res.1)) 0 0 := by
  refine MX.of (plainFor_of_name (by decide)) (Nat.le_of_ble_eq_true rfl) ?_
  intro p e s m below meth c A X E hI ls hl
  obtain ⟨hx, hb, hml, hown, hts, hr, hlk⟩ := id X
  have hl : lv_has ls 4 [(0, .ref (h 0)), (1, .int l1)] := hl
  unfold f_X10_heavyOf at hf
  refine lv_aload_n (pc := 0) hx hb dX10_heavyOf_0 rfl (lv_at hl 0 rfl) ?_
  refine lv_iload_n (pc := 1) hx hb dX10_heavyOf_1 rfl (lv_at hl 1 rfl) ?_
  obtain ⟨t1, e1, hf⟩ := q_ob hf
  refine x_cVs (pc := 2) (st1 := []) (w1 := (mw G h z_thrown z_s z_kept z_isKept z_moveMany z_moves z_hands z_troubles z_troubleSorts z_troubleNumbers z_asked t1 z_leasts z_isSeen z_classMany z_types z_typeCounts z_typeMany z_text z_signs z_at z_lacks z_clauses z_begun z_letters z_firsts z_seconds z_aside z_sorts z_sizes z_items)) X E hI (c_X10_paints l G h e1) kv_X10_168 hd_X10_paints ⟨rfl, rfl⟩ (by decide) 0 rfl rfl rfl rfl hl.1 rfl (Nat.le_of_ble_eq_true rfl) dX10_heavyOf_2 ⟨Nat.le_of_ble_eq_true rfl, Nat.le_of_ble_eq_true rfl⟩ rfl (fun H locs hI => ?_)
  refine lv_iconst (pc := 5) (v := 0) hx hb dX10_heavyOf_5 (by decide) ?_
  refine lv_istore_n (pc := 6) (lv' := [(2, .int 0), (0, .ref (h 0)), (1, .int l1)]) hx hb dX10_heavyOf_6 rfl hl (by decide) rfl (fun ls hl => ?_)
  refine lv_iconst (pc := 7) (v := 0) hx hb dX10_heavyOf_7 (by decide) ?_
  refine lv_istore_n (pc := 8) (lv' := [(3, .int 0), (2, .int 0), (0, .ref (h 0)), (1, .int l1)]) hx hb dX10_heavyOf_8 rfl hl (by decide) rfl (fun ls hl => ?_)
  refine k_X10_heavyOf_L9 X E (fun l2_2 l3_2 H locs ls hI hl hf => ?_) hI (lv_sub hl [2, 1, 0] rfl) hf
  refine lv_iload_n (pc := 41) hx hb dX10_heavyOf_41 rfl (lv_at hl 1 rfl) ?_
  obtain rfl := Option.some.inj hf
  exact x_iret X hI dX10_heavyOf_42

abbrev rm_X10_useOf : Room := { frames := 1, cells := 0, slots := 0, locals := 23 }
set_option maxHeartbeats 4000000 in
set_option maxRecDepth 100000 in
theorem k_X10_useOf_L20 {p : Program} {l : Launch} {e : Env} {s : State} {m : MethodId} {args : Array Value} {below : List Frame} {meth : Method} {c : Code} {A : Nat → Prop} {G : GX} {h : Nat → Nat} {l2 : Int32} {l3 : Int32} {z_thrown : Int32} {z_s : Nat → Int32} {z_kept : Nat → Int32} {z_isKept : Int32} {z_moveMany : Int32} {z_moves : Nat → Int32} {z_hands : Nat → Int32} {z_troubles : Int32} {z_troubleSorts : Nat → Int32} {z_troubleNumbers : Nat → Int32} {z_asked : Nat → Int32} {z_paint : Nat → Int32} {z_leasts : Nat → Int32} {z_isSeen : Nat → Int32} {z_classMany : Int32} {z_types : Nat → Int32} {z_typeCounts : Nat → Int32} {z_typeMany : Int32} {z_text : Nat → Int32} {z_signs : Int32} {z_at : Int32} {z_lacks : Int32} {z_clauses : Int32} {z_begun : Int32} {z_letters : Nat → Int32} {z_firsts : Nat → Int32} {z_seconds : Nat → Int32} {z_aside : Nat → Int32} {z_sorts : Nat → Int32} {z_sizes : Nat → Int32} {z_items : Nat → Int64} {K : Int32 → Int32 → Option (Int32 × (Nat → Int32))} {res : Int32 × (Nat → Int32)} (X : CX RX10 cX10_useOf 6 (some .int) p s m args meth c) (E : EX G A s)
    (hK : ∀ (l4 : Int32) (l5 : Int32) (H : Heap) (locs : List Loc) (ls : Array Slot), IN A G (mw G h z_thrown z_s z_kept z_isKept z_moveMany z_moves z_hands z_troubles z_troubleSorts z_troubleNumbers z_asked z_paint z_leasts z_isSeen z_classMany z_types z_typeCounts z_typeMany z_text z_signs z_at z_lacks z_clauses z_begun z_letters z_firsts z_seconds z_aside z_sorts z_sizes z_items) s H locs → lv_has ls 6 [(0, .ref (h 0)), (2, .int l2), (3, .int l3), (4, .int l4), (5, .int l5)] → K l4 l5 = some res → W p l e rm_X10_useOf s m args below meth c H locs 0 0 (MQ below (QX G A (mw G h z_thrown z_s z_kept z_isKept z_moveMany z_moves z_hands z_troubles z_troubleSorts z_troubleNumbers z_asked res.2 z_leasts z_isSeen z_classMany z_types z_typeCounts z_typeMany z_text z_signs z_at z_lacks z_clauses z_begun z_letters z_firsts z_seconds z_aside z_sorts z_sizes z_items) (some (.int res.1))) args s 0 0 A) (F0 m 58 ls [])) :
    ∀ {k : Nat} {l4 : Int32} {l5 : Int32} {H : Heap} {locs : List Loc} {ls : Array Slot}, IN A G (mw G h z_thrown z_s z_kept z_isKept z_moveMany z_moves z_hands z_troubles z_troubleSorts z_troubleNumbers z_asked z_paint z_leasts z_isSeen z_classMany z_types z_typeCounts z_typeMany z_text z_signs z_at z_lacks z_clauses z_begun z_letters z_firsts z_seconds z_aside z_sorts z_sizes z_items) s H locs → lv_has ls 6 [(0, .ref (h 0)), (2, .int l2), (3, .int l3), (4, .int l4), (5, .int l5)] → f_X10_useOf_L20 l2 l3 z_s z_paint K k l4 l5 = some res → W p l e rm_X10_useOf s m args below meth c H locs 0 0 (MQ below (QX G A (mw G h z_thrown z_s z_kept z_isKept z_moveMany z_moves z_hands z_troubles z_troubleSorts z_troubleNumbers z_asked res.2 z_leasts z_isSeen z_classMany z_types z_typeCounts z_typeMany z_text z_signs z_at z_lacks z_clauses z_begun z_letters z_firsts z_seconds z_aside z_sorts z_sizes z_items) (some (.int res.1))) args s 0 0 A) (F0 m 20 ls []) := by
  obtain ⟨hx, hb, hml, hown, hts, hr, hlk⟩ := id X
  intro k
  induction k with
  | zero => intro l4 l5 H locs ls hI hl hf; exact nomatch (show none = some res from hf)
  | succ k ih =>
    intro l4 l5 H locs ls hI hl hf
    rw [f_X10_useOf_L20] at hf
    refine lv_iload (pc := 20) hx hb dX10_useOf_20 (lv_at hl 4 rfl) ?_
    refine lv_aload_n (pc := 22) hx hb dX10_useOf_22 rfl (lv_at hl 0 rfl) ?_
    refine x_get (pc := 23) X E hI inX10 0 rfl rfl 1 (by decide) tw_3_230 rfl dX10_useOf_23 ?_
    refine lv_iconst (pc := 26) (v := 0) hx hb dX10_useOf_26 (by decide) ?_
    obtain ⟨t1, e1, hf⟩ := q_ob hf
    refine x_iald (pc := 27) X E hI 1 rfl e1 dX10_useOf_27 ?_
    refine lv_icmp_ge (pc := 28) (tgt := 58) hx hb dX10_useOf_28 (by decide) (fun c2 => ?_) (fun c2 => ?_)
    · have hf := q_ip c2 hf
      exact hK _ _ _ _ _ hI (lv_sub hl [0, 1, 2, 3, 4] rfl) hf
    · have hf := q_in c2 hf
      refine lv_iload (pc := 31) hx hb dX10_useOf_31 (lv_at hl 3 rfl) ?_
      refine lv_aload_n (pc := 33) hx hb dX10_useOf_33 rfl (lv_at hl 0 rfl) ?_
      refine x_get (pc := 34) X E hI inX10 0 rfl rfl 11 (by decide) tw_4_0 rfl dX10_useOf_34 ?_
      refine lv_iload (pc := 37) hx hb dX10_useOf_37 (lv_at hl 4 rfl) ?_
      obtain ⟨t3, e3, hf⟩ := q_ob hf
      refine x_iald (pc := 39) X E hI 8 rfl e3 dX10_useOf_39 ?_
      refine lv_iload_n (pc := 40) hx hb dX10_useOf_40 rfl (lv_at hl 2 rfl) ?_
      refine lv_icmp_ne (pc := 41) (tgt := 48) hx hb dX10_useOf_41 (by decide) (fun c4 => ?_) (fun c4 => ?_)
      · have hf := q_in c4 hf
        refine lv_iconst (pc := 48) (v := 0) hx hb dX10_useOf_48 (by decide) ?_
        refine lv_iadd (pc := 49) hx hb dX10_useOf_49 ?_
        refine lv_istore (pc := 50) (lv' := [(4, .int (l4 + 0)), (0, .ref (h 0)), (2, .int l2), (3, .int l3), (5, .int l5)]) hx hb dX10_useOf_50 hl (by decide) rfl (fun ls hl => ?_)
        refine lv_iinc (pc := 52) (v := l5 + 1) (lv' := [(5, .int (l5 + 1)), (4, .int (l4 + 0)), (0, .ref (h 0)), (2, .int l2), (3, .int l3)]) hx hb dX10_useOf_52 hl (k := 4) rfl rfl (by decide) rfl (fun ls hl => ?_)
        refine lv_goto (pc := 55) (tgt := 20) hx hb dX10_useOf_55 (by decide) ?_
        exact ih hI (lv_sub hl [2, 3, 4, 1, 0] rfl) hf
      · have hf := q_ip c4 hf
        refine lv_iconst (pc := 44) (v := 1) hx hb dX10_useOf_44 (by decide) ?_
        refine lv_goto (pc := 45) (tgt := 49) hx hb dX10_useOf_45 (by decide) ?_
        refine lv_iadd (pc := 49) hx hb dX10_useOf_49 ?_
        refine lv_istore (pc := 50) (lv' := [(4, .int (l4 + 1)), (0, .ref (h 0)), (2, .int l2), (3, .int l3), (5, .int l5)]) hx hb dX10_useOf_50 hl (by decide) rfl (fun ls hl => ?_)
        refine lv_iinc (pc := 52) (v := l5 + 1) (lv' := [(5, .int (l5 + 1)), (4, .int (l4 + 1)), (0, .ref (h 0)), (2, .int l2), (3, .int l3)]) hx hb dX10_useOf_52 hl (k := 4) rfl rfl (by decide) rfl (fun ls hl => ?_)
        refine lv_goto (pc := 55) (tgt := 20) hx hb dX10_useOf_55 (by decide) ?_
        exact ih hI (lv_sub hl [2, 3, 4, 1, 0] rfl) hf

set_option maxHeartbeats 4000000 in
set_option maxRecDepth 100000 in
theorem k_X10_useOf_L9 {p : Program} {l : Launch} {e : Env} {s : State} {m : MethodId} {args : Array Value} {below : List Frame} {meth : Method} {c : Code} {A : Nat → Prop} {G : GX} {h : Nat → Nat} {z_thrown : Int32} {z_s : Nat → Int32} {z_kept : Nat → Int32} {z_isKept : Int32} {z_moveMany : Int32} {z_moves : Nat → Int32} {z_hands : Nat → Int32} {z_troubles : Int32} {z_troubleSorts : Nat → Int32} {z_troubleNumbers : Nat → Int32} {z_asked : Nat → Int32} {z_paint : Nat → Int32} {z_leasts : Nat → Int32} {z_isSeen : Nat → Int32} {z_classMany : Int32} {z_types : Nat → Int32} {z_typeCounts : Nat → Int32} {z_typeMany : Int32} {z_text : Nat → Int32} {z_signs : Int32} {z_at : Int32} {z_lacks : Int32} {z_clauses : Int32} {z_begun : Int32} {z_letters : Nat → Int32} {z_firsts : Nat → Int32} {z_seconds : Nat → Int32} {z_aside : Nat → Int32} {z_sorts : Nat → Int32} {z_sizes : Nat → Int32} {z_items : Nat → Int64} {K : Int32 → Int32 → Option (Int32 × (Nat → Int32))} {res : Int32 × (Nat → Int32)} (X : CX RX10 cX10_useOf 6 (some .int) p s m args meth c) (E : EX G A s)
    (hK : ∀ (l2 : Int32) (l3 : Int32) (H : Heap) (locs : List Loc) (ls : Array Slot), IN A G (mw G h z_thrown z_s z_kept z_isKept z_moveMany z_moves z_hands z_troubles z_troubleSorts z_troubleNumbers z_asked z_paint z_leasts z_isSeen z_classMany z_types z_typeCounts z_typeMany z_text z_signs z_at z_lacks z_clauses z_begun z_letters z_firsts z_seconds z_aside z_sorts z_sizes z_items) s H locs → lv_has ls 6 [(0, .ref (h 0)), (2, .int l2), (3, .int l3)] → K l2 l3 = some res → W p l e rm_X10_useOf s m args below meth c H locs 0 0 (MQ below (QX G A (mw G h z_thrown z_s z_kept z_isKept z_moveMany z_moves z_hands z_troubles z_troubleSorts z_troubleNumbers z_asked res.2 z_leasts z_isSeen z_classMany z_types z_typeCounts z_typeMany z_text z_signs z_at z_lacks z_clauses z_begun z_letters z_firsts z_seconds z_aside z_sorts z_sizes z_items) (some (.int res.1))) args s 0 0 A) (F0 m 72 ls [])) :
    ∀ {k : Nat} {l2 : Int32} {l3 : Int32} {H : Heap} {locs : List Loc} {ls : Array Slot}, IN A G (mw G h z_thrown z_s z_kept z_isKept z_moveMany z_moves z_hands z_troubles z_troubleSorts z_troubleNumbers z_asked z_paint z_leasts z_isSeen z_classMany z_types z_typeCounts z_typeMany z_text z_signs z_at z_lacks z_clauses z_begun z_letters z_firsts z_seconds z_aside z_sorts z_sizes z_items) s H locs → lv_has ls 6 [(0, .ref (h 0)), (2, .int l2), (3, .int l3)] → f_X10_useOf_L9 z_s z_paint K k l2 l3 = some res → W p l e rm_X10_useOf s m args below meth c H locs 0 0 (MQ below (QX G A (mw G h z_thrown z_s z_kept z_isKept z_moveMany z_moves z_hands z_troubles z_troubleSorts z_troubleNumbers z_asked res.2 z_leasts z_isSeen z_classMany z_types z_typeCounts z_typeMany z_text z_signs z_at z_lacks z_clauses z_begun z_letters z_firsts z_seconds z_aside z_sorts z_sizes z_items) (some (.int res.1))) args s 0 0 A) (F0 m 9 ls []) := by
  obtain ⟨hx, hb, hml, hown, hts, hr, hlk⟩ := id X
  intro k
  induction k with
  | zero => intro l2 l3 H locs ls hI hl hf; exact nomatch (show none = some res from hf)
  | succ k ih =>
    intro l2 l3 H locs ls hI hl hf
    rw [f_X10_useOf_L9] at hf
    refine lv_iload_n (pc := 9) hx hb dX10_useOf_9 rfl (lv_at hl 2 rfl) ?_
    refine lv_iconst (pc := 10) (v := 4) hx hb dX10_useOf_10 (by decide) ?_
    refine lv_icmp_ge (pc := 11) (tgt := 72) hx hb dX10_useOf_11 (by decide) (fun c1 => ?_) (fun c1 => ?_)
    · have hf := q_ip c1 hf
      exact hK _ _ _ _ _ hI (lv_sub hl [0, 1, 2] rfl) hf
    · have hf := q_in c1 hf
      refine lv_iconst (pc := 14) (v := 0) hx hb dX10_useOf_14 (by decide) ?_
      refine lv_istore (pc := 15) (lv' := [(4, .int 0), (0, .ref (h 0)), (2, .int l2), (3, .int l3)]) hx hb dX10_useOf_15 hl (by decide) rfl (fun ls hl => ?_)
      refine lv_iconst (pc := 17) (v := 0) hx hb dX10_useOf_17 (by decide) ?_
      refine lv_istore (pc := 18) (lv' := [(5, .int 0), (4, .int 0), (0, .ref (h 0)), (2, .int l2), (3, .int l3)]) hx hb dX10_useOf_18 hl (by decide) rfl (fun ls hl => ?_)
      refine k_X10_useOf_L20 X E (fun l4_2 l5_2 H locs ls hI hl hf => ?_) hI (lv_sub hl [2, 3, 4, 1, 0] rfl) hf
      refine lv_bipush (pc := 58) (v := 10) hx hb dX10_useOf_58 (by decide) ?_
      refine lv_iload_n (pc := 60) hx hb dX10_useOf_60 rfl (lv_at hl 1 rfl) ?_
      refine lv_imul (pc := 61) hx hb dX10_useOf_61 ?_
      refine lv_iload (pc := 62) hx hb dX10_useOf_62 (lv_at hl 3 rfl) ?_
      refine lv_iadd (pc := 64) hx hb dX10_useOf_64 ?_
      refine lv_istore_n (pc := 65) (lv' := [(2, .int ((10 * l2) + l4_2)), (0, .ref (h 0)), (3, .int l3), (4, .int l4_2), (5, .int l5_2)]) hx hb dX10_useOf_65 rfl hl (by decide) rfl (fun ls hl => ?_)
      refine lv_iinc (pc := 66) (v := l3 + 1) (lv' := [(3, .int (l3 + 1)), (2, .int ((10 * l2) + l4_2)), (0, .ref (h 0)), (4, .int l4_2), (5, .int l5_2)]) hx hb dX10_useOf_66 hl (k := 2) rfl rfl (by decide) rfl (fun ls hl => ?_)
      refine lv_goto (pc := 69) (tgt := 9) hx hb dX10_useOf_69 (by decide) ?_
      exact ih hI (lv_sub hl [2, 1, 0] rfl) hf

set_option maxHeartbeats 4000000 in
set_option maxRecDepth 100000 in
theorem c_X10_useOf (l : Launch) (G : GX) (h : Nat → Nat) {l1 : Int32} {z_s : Nat → Int32} {z_paint : Nat → Int32} {z_thrown : Int32} {z_kept : Nat → Int32} {z_isKept : Int32} {z_moveMany : Int32} {z_moves : Nat → Int32} {z_hands : Nat → Int32} {z_troubles : Int32} {z_troubleSorts : Nat → Int32} {z_troubleNumbers : Nat → Int32} {z_asked : Nat → Int32} {z_leasts : Nat → Int32} {z_isSeen : Nat → Int32} {z_classMany : Int32} {z_types : Nat → Int32} {z_typeCounts : Nat → Int32} {z_typeMany : Int32} {z_text : Nat → Int32} {z_signs : Int32} {z_at : Int32} {z_lacks : Int32} {z_clauses : Int32} {z_begun : Int32} {z_letters : Nat → Int32} {z_firsts : Nat → Int32} {z_seconds : Nat → Int32} {z_aside : Nat → Int32} {z_sorts : Nat → Int32} {z_sizes : Nat → Int32} {z_items : Nat → Int64} {res : Int32 × (Nat → Int32)} (hf : f_X10_useOf l1 z_s z_paint = some res) : MX l yX10_useOf cX10_useOf 6 (some .int) rm_X10_useOf G (mw G h z_thrown z_s z_kept z_isKept z_moveMany z_moves z_hands z_troubles z_troubleSorts z_troubleNumbers z_asked z_paint z_leasts z_isSeen z_classMany z_types z_typeCounts z_typeMany z_text z_signs z_at z_lacks z_clauses z_begun z_letters z_firsts z_seconds z_aside z_sorts z_sizes z_items) [.ref (h 0), .int l1] (mw G h z_thrown z_s z_kept z_isKept z_moveMany z_moves z_hands z_troubles z_troubleSorts z_troubleNumbers z_asked res.2 z_leasts z_isSeen z_classMany z_types z_typeCounts z_typeMany z_text z_signs z_at z_lacks z_clauses z_begun z_letters z_firsts z_seconds z_aside z_sorts z_sizes z_items) (some (.int res.1)) 0 0 := by
  refine MX.of (plainFor_of_name (by decide)) (Nat.le_of_ble_eq_true rfl) ?_
  intro p e s m below meth c A X E hI ls hl
  obtain ⟨hx, hb, hml, hown, hts, hr, hlk⟩ := id X
  have hl : lv_has ls 6 [(0, .ref (h 0)), (1, .int l1)] := hl
  unfold f_X10_useOf at hf
  refine lv_aload_n (pc := 0) hx hb dX10_useOf_0 rfl (lv_at hl 0 rfl) ?_
  refine lv_iload_n (pc := 1) hx hb dX10_useOf_1 rfl (lv_at hl 1 rfl) ?_
  obtain ⟨t1, e1, hf⟩ := q_ob hf
  refine x_cVs (pc := 2) (st1 := []) (w1 := (mw G h z_thrown z_s z_kept z_isKept z_moveMany z_moves z_hands z_troubles z_troubleSorts z_troubleNumbers z_asked t1 z_leasts z_isSeen z_classMany z_types z_typeCounts z_typeMany z_text z_signs z_at z_lacks z_clauses z_begun z_letters z_firsts z_seconds z_aside z_sorts z_sizes z_items)) X E hI (c_X10_paints l G h e1) kv_X10_168 hd_X10_paints ⟨rfl, rfl⟩ (by decide) 0 rfl rfl rfl rfl hl.1 rfl (Nat.le_of_ble_eq_true rfl) dX10_useOf_2 ⟨Nat.le_of_ble_eq_true rfl, Nat.le_of_ble_eq_true rfl⟩ rfl (fun H locs hI => ?_)
  refine lv_iconst (pc := 5) (v := 0) hx hb dX10_useOf_5 (by decide) ?_
  refine lv_istore_n (pc := 6) (lv' := [(2, .int 0), (0, .ref (h 0)), (1, .int l1)]) hx hb dX10_useOf_6 rfl hl (by decide) rfl (fun ls hl => ?_)
  refine lv_iconst (pc := 7) (v := 0) hx hb dX10_useOf_7 (by decide) ?_
  refine lv_istore_n (pc := 8) (lv' := [(3, .int 0), (2, .int 0), (0, .ref (h 0)), (1, .int l1)]) hx hb dX10_useOf_8 rfl hl (by decide) rfl (fun ls hl => ?_)
  refine k_X10_useOf_L9 X E (fun l2_2 l3_2 H locs ls hI hl hf => ?_) hI (lv_sub hl [2, 1, 0] rfl) hf
  refine lv_iload_n (pc := 72) hx hb dX10_useOf_72 rfl (lv_at hl 1 rfl) ?_
  obtain rfl := Option.some.inj hf
  exact x_iret X hI dX10_useOf_73

abbrev rm_X10_kindOf : Room := { frames := 7, cells := 0, slots := 0, locals := 153 }
set_option maxHeartbeats 4000000 in
set_option maxRecDepth 100000 in
theorem c_X10_kindOf (l : Launch) (G : GX) (h : Nat → Nat) {l1 : Int32} {l2 : Int32} {l3 : Int32} {z_s : Nat → Int32} {z_moveMany : Int32} {z_moves : Nat → Int32} {z_hands : Nat → Int32} {z_paint : Nat → Int32} {z_leasts : Nat → Int32} {z_isSeen : Nat → Int32} {z_classMany : Int32} {z_thrown : Int32} {z_kept : Nat → Int32} {z_isKept : Int32} {z_troubles : Int32} {z_troubleSorts : Nat → Int32} {z_troubleNumbers : Nat → Int32} {z_asked : Nat → Int32} {z_types : Nat → Int32} {z_typeCounts : Nat → Int32} {z_typeMany : Int32} {z_text : Nat → Int32} {z_signs : Int32} {z_at : Int32} {z_lacks : Int32} {z_clauses : Int32} {z_begun : Int32} {z_letters : Nat → Int32} {z_firsts : Nat → Int32} {z_seconds : Nat → Int32} {z_aside : Nat → Int32} {z_sorts : Nat → Int32} {z_sizes : Nat → Int32} {z_items : Nat → Int64} {res : Int32 × Int32 × (Nat → Int32) × (Nat → Int32) × (Nat → Int32) × (Nat → Int32) × (Nat → Int32) × Int32} (hf : f_X10_kindOf l1 l2 l3 z_s z_moveMany z_moves z_hands z_paint z_leasts z_isSeen z_classMany = some res) : MX l yX10_kindOf cX10_kindOf 5 (some .int) rm_X10_kindOf G (mw G h z_thrown z_s z_kept z_isKept z_moveMany z_moves z_hands z_troubles z_troubleSorts z_troubleNumbers z_asked z_paint z_leasts z_isSeen z_classMany z_types z_typeCounts z_typeMany z_text z_signs z_at z_lacks z_clauses z_begun z_letters z_firsts z_seconds z_aside z_sorts z_sizes z_items) [.ref (h 0), .int l1, .int l2, .int l3] (mw G h z_thrown z_s z_kept z_isKept res.2.1 res.2.2.1 res.2.2.2.1 z_troubles z_troubleSorts z_troubleNumbers z_asked res.2.2.2.2.1 res.2.2.2.2.2.1 res.2.2.2.2.2.2.1 res.2.2.2.2.2.2.2 z_types z_typeCounts z_typeMany z_text z_signs z_at z_lacks z_clauses z_begun z_letters z_firsts z_seconds z_aside z_sorts z_sizes z_items) (some (.int res.1)) 0 0 := by
  refine MX.of (plainFor_of_name (by decide)) (Nat.le_of_ble_eq_true rfl) ?_
  intro p e s m below meth c A X E hI ls hl
  obtain ⟨hx, hb, hml, hown, hts, hr, hlk⟩ := id X
  have hl : lv_has ls 5 [(0, .ref (h 0)), (1, .int l1), (2, .int l2), (3, .int l3)] := hl
  unfold f_X10_kindOf at hf
  refine lv_iload_n (pc := 0) hx hb dX10_kindOf_0 rfl (lv_at hl 1 rfl) ?_
  obtain ⟨t1, e1, hf⟩ := q_ob hf
  refine x_cSn (pc := 1) (st1 := [.int t1]) X E hI (c_X10_isBy l G e1) ks_X10_222 hd_X10_isBy ⟨rfl, rfl⟩ (by decide) rfl hl.1 rfl (Nat.le_of_ble_eq_true rfl) dX10_kindOf_1 ⟨Nat.le_of_ble_eq_true rfl, Nat.le_of_ble_eq_true rfl⟩ rfl (fun H locs hI => ?_)
  refine lv_if_eq (pc := 4) (tgt := 19) hx hb dX10_kindOf_4 (by decide) (fun c2 => ?_) (fun c2 => ?_)
  · have hf := q_ip c2 hf
    refine lv_iconst (pc := 19) (v := (-1)) hx hb dX10_kindOf_19 (by decide) ?_
    obtain rfl := Option.some.inj hf
    exact x_iret X hI dX10_kindOf_20
  · have hf := q_in c2 hf
    refine lv_iload_n (pc := 7) hx hb dX10_kindOf_7 rfl (lv_at hl 3 rfl) ?_
    refine lv_i2l (pc := 8) (v := (l3 : Int32).toInt64) hx hb dX10_kindOf_8 rfl ?_
    refine lv_lconst (pc := 9) (v := 0) hx hb dX10_kindOf_9 (by decide) ?_
    refine lv_ldc2 (pc := 10) (v := 3) hx hb hown (hts _ tw_4_102) dX10_kindOf_10 ?_
    obtain ⟨t3, e3, hf⟩ := q_ob hf
    refine x_cSn (pc := 13) (st1 := [.int t3]) X E hI (c_X10_in l G e3) ks_X10_85 hd_X10_in ⟨rfl, rfl⟩ (by decide) rfl hl.1 rfl (Nat.le_of_ble_eq_true rfl) dX10_kindOf_13 ⟨Nat.le_of_ble_eq_true rfl, Nat.le_of_ble_eq_true rfl⟩ rfl (fun H locs hI => ?_)
    refine lv_if_ne (pc := 16) (tgt := 21) hx hb dX10_kindOf_16 (by decide) (fun c4 => ?_) (fun c4 => ?_)
    · have hf := q_in c4 hf
      refine lv_aload_n (pc := 21) hx hb dX10_kindOf_21 rfl (lv_at hl 0 rfl) ?_
      refine lv_iload_n (pc := 22) hx hb dX10_kindOf_22 rfl (lv_at hl 1 rfl) ?_
      obtain ⟨t5, e5, hf⟩ := q_ob hf
      refine x_cVs (pc := 23) (st1 := []) (w1 := (mw G h z_thrown z_s z_kept z_isKept t5.1 t5.2.1 t5.2.2.1 z_troubles z_troubleSorts z_troubleNumbers z_asked t5.2.2.2.1 t5.2.2.2.2.1 t5.2.2.2.2.2.1 t5.2.2.2.2.2.2 z_types z_typeCounts z_typeMany z_text z_signs z_at z_lacks z_clauses z_begun z_letters z_firsts z_seconds z_aside z_sorts z_sizes z_items)) X E hI (c_X10_allClasses l G h e5) kv_X10_204 hd_X10_allClasses ⟨rfl, rfl⟩ (by decide) 0 rfl rfl rfl rfl hl.1 rfl (Nat.le_of_ble_eq_true rfl) dX10_kindOf_23 ⟨Nat.le_of_ble_eq_true rfl, Nat.le_of_ble_eq_true rfl⟩ rfl (fun H locs hI => ?_)
      refine lv_iload_n (pc := 26) hx hb dX10_kindOf_26 rfl (lv_at hl 2 rfl) ?_
      refine lv_i2l (pc := 27) (v := (l2 : Int32).toInt64) hx hb dX10_kindOf_27 rfl ?_
      refine lv_lconst (pc := 28) (v := 0) hx hb dX10_kindOf_28 (by decide) ?_
      refine lv_aload_n (pc := 29) hx hb dX10_kindOf_29 rfl (lv_at hl 0 rfl) ?_
      refine x_get (pc := 30) X E hI inX10 0 rfl rfl 14 (by decide) tw_4_3 rfl dX10_kindOf_30 ?_
      refine lv_iconst (pc := 33) (v := 1) hx hb dX10_kindOf_33 (by decide) ?_
      refine lv_isub (pc := 34) hx hb dX10_kindOf_34 ?_
      refine lv_i2l (pc := 35) (v := (t5.2.2.2.2.2.2 - 1 : Int32).toInt64) hx hb dX10_kindOf_35 rfl ?_
      obtain ⟨t6, e6, hf⟩ := q_ob hf
      refine x_cSn (pc := 36) (st1 := [.int t6]) X E hI (c_X10_in l G e6) ks_X10_85 hd_X10_in ⟨rfl, rfl⟩ (by decide) rfl hl.1 rfl (Nat.le_of_ble_eq_true rfl) dX10_kindOf_36 ⟨Nat.le_of_ble_eq_true rfl, Nat.le_of_ble_eq_true rfl⟩ rfl (fun H locs hI => ?_)
      refine lv_if_ne (pc := 39) (tgt := 44) hx hb dX10_kindOf_39 (by decide) (fun c7 => ?_) (fun c7 => ?_)
      · have hf := q_in c7 hf
        refine lv_aload_n (pc := 44) hx hb dX10_kindOf_44 rfl (lv_at hl 0 rfl) ?_
        refine x_get (pc := 45) X E hI inX10 0 rfl rfl 12 (by decide) tw_4_1 rfl dX10_kindOf_45 ?_
        refine lv_iload_n (pc := 48) hx hb dX10_kindOf_48 rfl (lv_at hl 2 rfl) ?_
        obtain ⟨t8, e8, hf⟩ := q_ob hf
        refine x_iald (pc := 49) X E hI 9 rfl e8 dX10_kindOf_49 ?_
        refine lv_istore (pc := 50) (lv' := [(4, .int t8), (0, .ref (h 0)), (1, .int l1), (2, .int l2), (3, .int l3)]) hx hb dX10_kindOf_50 hl (by decide) rfl (fun ls hl => ?_)
        refine lv_iload_n (pc := 52) hx hb dX10_kindOf_52 rfl (lv_at hl 4 rfl) ?_
        refine lv_if_ne (pc := 53) (tgt := 65) hx hb dX10_kindOf_53 (by decide) (fun c9 => ?_) (fun c9 => ?_)
        · have hf := q_in c9 hf
          refine lv_iload_n (pc := 65) hx hb dX10_kindOf_65 rfl (lv_at hl 4 rfl) ?_
          refine lv_iconst (pc := 66) (v := 1) hx hb dX10_kindOf_66 (by decide) ?_
          refine lv_icmp_ne (pc := 67) (tgt := 80) hx hb dX10_kindOf_67 (by decide) (fun c10 => ?_) (fun c10 => ?_)
          · have hf := q_in c10 hf
            refine lv_iload_n (pc := 80) hx hb dX10_kindOf_80 rfl (lv_at hl 4 rfl) ?_
            refine lv_iconst (pc := 81) (v := 2) hx hb dX10_kindOf_81 (by decide) ?_
            refine lv_icmp_ne (pc := 82) (tgt := 94) hx hb dX10_kindOf_82 (by decide) (fun c11 => ?_) (fun c11 => ?_)
            · have hf := q_in c11 hf
              refine lv_aload_n (pc := 94) hx hb dX10_kindOf_94 rfl (lv_at hl 1 rfl) ?_
              refine lv_iload (pc := 95) hx hb dX10_kindOf_95 (lv_at hl 0 rfl) ?_
              obtain ⟨t12, e12, hf⟩ := q_ob hf
              refine x_cVs (pc := 97) (st1 := [.int t12.1]) (w1 := (mw G h z_thrown z_s z_kept z_isKept t5.1 t5.2.1 t5.2.2.1 z_troubles z_troubleSorts z_troubleNumbers z_asked t12.2 t5.2.2.2.2.1 t5.2.2.2.2.2.1 t5.2.2.2.2.2.2 z_types z_typeCounts z_typeMany z_text z_signs z_at z_lacks z_clauses z_begun z_letters z_firsts z_seconds z_aside z_sorts z_sizes z_items)) X E hI (c_X10_useOf l G h e12) kv_X10_245 hd_X10_useOf ⟨rfl, rfl⟩ (by decide) 0 rfl rfl rfl rfl hl.1 rfl (Nat.le_of_ble_eq_true rfl) dX10_kindOf_97 ⟨Nat.le_of_ble_eq_true rfl, Nat.le_of_ble_eq_true rfl⟩ rfl (fun H locs hI => ?_)
              obtain rfl := Option.some.inj hf
              exact x_iret X hI dX10_kindOf_100
            · have hf := q_ip c11 hf
              refine lv_aload_n (pc := 85) hx hb dX10_kindOf_85 rfl (lv_at hl 1 rfl) ?_
              refine lv_iload (pc := 86) hx hb dX10_kindOf_86 (lv_at hl 0 rfl) ?_
              obtain ⟨t13, e13, hf⟩ := q_ob hf
              refine x_cVs (pc := 88) (st1 := [.int t13.1]) (w1 := (mw G h z_thrown z_s z_kept z_isKept t5.1 t5.2.1 t5.2.2.1 z_troubles z_troubleSorts z_troubleNumbers z_asked t13.2 t5.2.2.2.2.1 t5.2.2.2.2.2.1 t5.2.2.2.2.2.2 z_types z_typeCounts z_typeMany z_text z_signs z_at z_lacks z_clauses z_begun z_letters z_firsts z_seconds z_aside z_sorts z_sizes z_items)) X E hI (c_X10_heavyOf l G h e13) kv_X10_242 hd_X10_heavyOf ⟨rfl, rfl⟩ (by decide) 0 rfl rfl rfl rfl hl.1 rfl (Nat.le_of_ble_eq_true rfl) dX10_kindOf_88 ⟨Nat.le_of_ble_eq_true rfl, Nat.le_of_ble_eq_true rfl⟩ rfl (fun H locs hI => ?_)
              refine lv_goto (pc := 91) (tgt := 100) hx hb dX10_kindOf_91 (by decide) ?_
              obtain rfl := Option.some.inj hf
              exact x_iret X hI dX10_kindOf_100
          · have hf := q_ip c10 hf
            refine lv_aload_n (pc := 70) hx hb dX10_kindOf_70 rfl (lv_at hl 1 rfl) ?_
            refine lv_iload_n (pc := 71) hx hb dX10_kindOf_71 rfl (lv_at hl 2 rfl) ?_
            refine lv_iload (pc := 72) hx hb dX10_kindOf_72 (lv_at hl 0 rfl) ?_
            obtain ⟨t14, e14, hf⟩ := q_ob hf
            refine x_cVs (pc := 74) (st1 := [.int t14.1]) (w1 := (mw G h z_thrown z_s z_kept z_isKept t5.1 t5.2.1 t5.2.2.1 z_troubles z_troubleSorts z_troubleNumbers z_asked t14.2 t5.2.2.2.2.1 t5.2.2.2.2.2.1 t5.2.2.2.2.2.2 z_types z_typeCounts z_typeMany z_text z_signs z_at z_lacks z_clauses z_begun z_letters z_firsts z_seconds z_aside z_sorts z_sizes z_items)) X E hI (c_X10_sizeOf l G h e14) kv_X10_239 hd_X10_sizeOf ⟨rfl, rfl⟩ (by decide) 0 rfl rfl rfl rfl hl.1 rfl (Nat.le_of_ble_eq_true rfl) dX10_kindOf_74 ⟨Nat.le_of_ble_eq_true rfl, Nat.le_of_ble_eq_true rfl⟩ rfl (fun H locs hI => ?_)
            refine lv_goto (pc := 77) (tgt := 100) hx hb dX10_kindOf_77 (by decide) ?_
            obtain rfl := Option.some.inj hf
            exact x_iret X hI dX10_kindOf_100
        · have hf := q_ip c9 hf
          refine lv_aload_n (pc := 56) hx hb dX10_kindOf_56 rfl (lv_at hl 1 rfl) ?_
          refine lv_iload (pc := 57) hx hb dX10_kindOf_57 (lv_at hl 0 rfl) ?_
          obtain ⟨t15, e15, hf⟩ := q_ob hf
          refine x_cVs (pc := 59) (st1 := [.int t15.1]) (w1 := (mw G h z_thrown z_s z_kept z_isKept t5.1 t5.2.1 t5.2.2.1 z_troubles z_troubleSorts z_troubleNumbers z_asked t15.2 t5.2.2.2.2.1 t5.2.2.2.2.2.1 t5.2.2.2.2.2.2 z_types z_typeCounts z_typeMany z_text z_signs z_at z_lacks z_clauses z_begun z_letters z_firsts z_seconds z_aside z_sorts z_sizes z_items)) X E hI (c_X10_tellsPainting l G h e15) kv_X10_236 hd_X10_tellsPainting ⟨rfl, rfl⟩ (by decide) 0 rfl rfl rfl rfl hl.1 rfl (Nat.le_of_ble_eq_true rfl) dX10_kindOf_59 ⟨Nat.le_of_ble_eq_true rfl, Nat.le_of_ble_eq_true rfl⟩ rfl (fun H locs hI => ?_)
          refine lv_goto (pc := 62) (tgt := 100) hx hb dX10_kindOf_62 (by decide) ?_
          obtain rfl := Option.some.inj hf
          exact x_iret X hI dX10_kindOf_100
      · have hf := q_ip c7 hf
        refine lv_iconst (pc := 42) (v := (-1)) hx hb dX10_kindOf_42 (by decide) ?_
        obtain rfl := Option.some.inj hf
        exact x_iret X hI dX10_kindOf_43
    · have hf := q_ip c4 hf
      refine lv_iconst (pc := 19) (v := (-1)) hx hb dX10_kindOf_19 (by decide) ?_
      obtain rfl := Option.some.inj hf
      exact x_iret X hI dX10_kindOf_20

abbrev rm_X10_heavy : Room := { frames := 7, cells := 0, slots := 0, locals := 153 }
set_option maxHeartbeats 4000000 in
set_option maxRecDepth 100000 in
theorem k_X10_heavy_L34 {p : Program} {l : Launch} {e : Env} {s : State} {m : MethodId} {args : Array Value} {below : List Frame} {meth : Method} {c : Code} {A : Nat → Prop} {G : GX} {h : Nat → Nat} {l2 : Int32} {z_thrown : Int32} {z_s : Nat → Int32} {z_kept : Nat → Int32} {z_isKept : Int32} {z_moveMany : Int32} {z_moves : Nat → Int32} {z_hands : Nat → Int32} {z_troubles : Int32} {z_troubleSorts : Nat → Int32} {z_troubleNumbers : Nat → Int32} {z_asked : Nat → Int32} {z_leasts : Nat → Int32} {z_isSeen : Nat → Int32} {z_classMany : Int32} {z_types : Nat → Int32} {z_typeCounts : Nat → Int32} {z_typeMany : Int32} {z_text : Nat → Int32} {z_signs : Int32} {z_at : Int32} {z_lacks : Int32} {z_clauses : Int32} {z_begun : Int32} {z_letters : Nat → Int32} {z_firsts : Nat → Int32} {z_seconds : Nat → Int32} {z_aside : Nat → Int32} {z_sorts : Nat → Int32} {z_sizes : Nat → Int32} {z_items : Nat → Int64} {K : Int32 → Int32 → (Nat → Int32) → Option (Int32 × Int32 × (Nat → Int32) × (Nat → Int32) × (Nat → Int32) × (Nat → Int32) × (Nat → Int32) × Int32)} {res : Int32 × Int32 × (Nat → Int32) × (Nat → Int32) × (Nat → Int32) × (Nat → Int32) × (Nat → Int32) × Int32} (X : CX RX10 cX10_heavy 5 (some .int) p s m args meth c) (E : EX G A s)
    (hK : ∀ (l3 : Int32) (l4 : Int32) (z_paint : (Nat → Int32)) (H : Heap) (locs : List Loc) (ls : Array Slot), IN A G (mw G h z_thrown z_s z_kept z_isKept z_moveMany z_moves z_hands z_troubles z_troubleSorts z_troubleNumbers z_asked z_paint z_leasts z_isSeen z_classMany z_types z_typeCounts z_typeMany z_text z_signs z_at z_lacks z_clauses z_begun z_letters z_firsts z_seconds z_aside z_sorts z_sizes z_items) s H locs → lv_has ls 5 [(0, .ref (h 0)), (2, .int l2), (3, .int l3), (4, .int l4)] → K l3 l4 z_paint = some res → W p l e rm_X10_heavy s m args below meth c H locs 0 0 (MQ below (QX G A (mw G h z_thrown z_s z_kept z_isKept res.2.1 res.2.2.1 res.2.2.2.1 z_troubles z_troubleSorts z_troubleNumbers z_asked res.2.2.2.2.1 res.2.2.2.2.2.1 res.2.2.2.2.2.2.1 res.2.2.2.2.2.2.2 z_types z_typeCounts z_typeMany z_text z_signs z_at z_lacks z_clauses z_begun z_letters z_firsts z_seconds z_aside z_sorts z_sizes z_items) (some (.int res.1))) args s 0 0 A) (F0 m 72 ls [])) :
    ∀ {k : Nat} {l3 : Int32} {l4 : Int32} {z_paint : (Nat → Int32)} {H : Heap} {locs : List Loc} {ls : Array Slot}, IN A G (mw G h z_thrown z_s z_kept z_isKept z_moveMany z_moves z_hands z_troubles z_troubleSorts z_troubleNumbers z_asked z_paint z_leasts z_isSeen z_classMany z_types z_typeCounts z_typeMany z_text z_signs z_at z_lacks z_clauses z_begun z_letters z_firsts z_seconds z_aside z_sorts z_sizes z_items) s H locs → lv_has ls 5 [(0, .ref (h 0)), (2, .int l2), (3, .int l3), (4, .int l4)] → f_X10_heavy_L34 l2 z_s z_leasts z_classMany K k l3 l4 z_paint = some res → W p l e rm_X10_heavy s m args below meth c H locs 0 0 (MQ below (QX G A (mw G h z_thrown z_s z_kept z_isKept res.2.1 res.2.2.1 res.2.2.2.1 z_troubles z_troubleSorts z_troubleNumbers z_asked res.2.2.2.2.1 res.2.2.2.2.2.1 res.2.2.2.2.2.2.1 res.2.2.2.2.2.2.2 z_types z_typeCounts z_typeMany z_text z_signs z_at z_lacks z_clauses z_begun z_letters z_firsts z_seconds z_aside z_sorts z_sizes z_items) (some (.int res.1))) args s 0 0 A) (F0 m 34 ls []) := by
  obtain ⟨hx, hb, hml, hown, hts, hr, hlk⟩ := id X
  intro k
  induction k with
  | zero => intro l3 l4 z_paint H locs ls hI hl hf; exact nomatch (show none = some res from hf)
  | succ k ih =>
    intro l3 l4 z_paint H locs ls hI hl hf
    rw [f_X10_heavy_L34] at hf
    refine lv_iload (pc := 34) hx hb dX10_heavy_34 (lv_at hl 3 rfl) ?_
    refine lv_aload_n (pc := 36) hx hb dX10_heavy_36 rfl (lv_at hl 0 rfl) ?_
    refine x_get (pc := 37) X E hI inX10 0 rfl rfl 14 (by decide) tw_4_3 rfl dX10_heavy_37 ?_
    refine lv_icmp_ge (pc := 40) (tgt := 72) hx hb dX10_heavy_40 (by decide) (fun c1 => ?_) (fun c1 => ?_)
    · have hf := q_ip c1 hf
      exact hK _ _ _ _ _ _ hI (lv_sub hl [0, 1, 2, 3] rfl) hf
    · have hf := q_in c1 hf
      refine lv_iload_n (pc := 43) hx hb dX10_heavy_43 rfl (lv_at hl 2 rfl) ?_
      refine lv_aload_n (pc := 44) hx hb dX10_heavy_44 rfl (lv_at hl 0 rfl) ?_
      refine lv_aload_n (pc := 45) hx hb dX10_heavy_45 rfl (lv_at hl 0 rfl) ?_
      refine x_get (pc := 46) X E hI inX10 0 rfl rfl 12 (by decide) tw_4_1 rfl dX10_heavy_46 ?_
      refine lv_iload (pc := 49) hx hb dX10_heavy_49 (lv_at hl 3 rfl) ?_
      obtain ⟨t2, e2, hf⟩ := q_ob hf
      refine x_iald (pc := 51) X E hI 9 rfl e2 dX10_heavy_51 ?_
      obtain ⟨t3, e3, hf⟩ := q_ob hf
      refine x_cVs (pc := 52) (st1 := [.int t3.1, .int l3]) (w1 := (mw G h z_thrown z_s z_kept z_isKept z_moveMany z_moves z_hands z_troubles z_troubleSorts z_troubleNumbers z_asked t3.2 z_leasts z_isSeen z_classMany z_types z_typeCounts z_typeMany z_text z_signs z_at z_lacks z_clauses z_begun z_letters z_firsts z_seconds z_aside z_sorts z_sizes z_items)) X E hI (c_X10_heavyOf l G h e3) kv_X10_242 hd_X10_heavyOf ⟨rfl, rfl⟩ (by decide) 0 rfl rfl rfl rfl hl.1 rfl (Nat.le_of_ble_eq_true rfl) dX10_heavy_52 ⟨Nat.le_of_ble_eq_true rfl, Nat.le_of_ble_eq_true rfl⟩ rfl (fun H locs hI => ?_)
      refine lv_iload_n (pc := 55) hx hb dX10_heavy_55 rfl (lv_at hl 1 rfl) ?_
      refine lv_icmp_ne (pc := 56) (tgt := 63) hx hb dX10_heavy_56 (by decide) (fun c4 => ?_) (fun c4 => ?_)
      · have hf := q_in c4 hf
        refine lv_iconst (pc := 63) (v := 0) hx hb dX10_heavy_63 (by decide) ?_
        refine lv_iadd (pc := 64) hx hb dX10_heavy_64 ?_
        refine lv_istore_n (pc := 65) (lv' := [(3, .int (l3 + 0)), (0, .ref (h 0)), (2, .int l2), (4, .int l4)]) hx hb dX10_heavy_65 rfl hl (by decide) rfl (fun ls hl => ?_)
        refine lv_iinc (pc := 66) (v := l4 + 1) (lv' := [(4, .int (l4 + 1)), (3, .int (l3 + 0)), (0, .ref (h 0)), (2, .int l2)]) hx hb dX10_heavy_66 hl (k := 3) rfl rfl (by decide) rfl (fun ls hl => ?_)
        refine lv_goto (pc := 69) (tgt := 34) hx hb dX10_heavy_69 (by decide) ?_
        exact ih hI (lv_sub hl [2, 3, 1, 0] rfl) hf
      · have hf := q_ip c4 hf
        refine lv_iconst (pc := 59) (v := 1) hx hb dX10_heavy_59 (by decide) ?_
        refine lv_goto (pc := 60) (tgt := 64) hx hb dX10_heavy_60 (by decide) ?_
        refine lv_iadd (pc := 64) hx hb dX10_heavy_64 ?_
        refine lv_istore_n (pc := 65) (lv' := [(3, .int (l3 + 1)), (0, .ref (h 0)), (2, .int l2), (4, .int l4)]) hx hb dX10_heavy_65 rfl hl (by decide) rfl (fun ls hl => ?_)
        refine lv_iinc (pc := 66) (v := l4 + 1) (lv' := [(4, .int (l4 + 1)), (3, .int (l3 + 1)), (0, .ref (h 0)), (2, .int l2)]) hx hb dX10_heavy_66 hl (k := 3) rfl rfl (by decide) rfl (fun ls hl => ?_)
        refine lv_goto (pc := 69) (tgt := 34) hx hb dX10_heavy_69 (by decide) ?_
        exact ih hI (lv_sub hl [2, 3, 1, 0] rfl) hf

set_option maxHeartbeats 4000000 in
set_option maxRecDepth 100000 in
theorem c_X10_heavy (l : Launch) (G : GX) (h : Nat → Nat) {l1 : Int32} {l2 : Int32} {z_s : Nat → Int32} {z_moveMany : Int32} {z_moves : Nat → Int32} {z_hands : Nat → Int32} {z_paint : Nat → Int32} {z_leasts : Nat → Int32} {z_isSeen : Nat → Int32} {z_classMany : Int32} {z_thrown : Int32} {z_kept : Nat → Int32} {z_isKept : Int32} {z_troubles : Int32} {z_troubleSorts : Nat → Int32} {z_troubleNumbers : Nat → Int32} {z_asked : Nat → Int32} {z_types : Nat → Int32} {z_typeCounts : Nat → Int32} {z_typeMany : Int32} {z_text : Nat → Int32} {z_signs : Int32} {z_at : Int32} {z_lacks : Int32} {z_clauses : Int32} {z_begun : Int32} {z_letters : Nat → Int32} {z_firsts : Nat → Int32} {z_seconds : Nat → Int32} {z_aside : Nat → Int32} {z_sorts : Nat → Int32} {z_sizes : Nat → Int32} {z_items : Nat → Int64} {res : Int32 × Int32 × (Nat → Int32) × (Nat → Int32) × (Nat → Int32) × (Nat → Int32) × (Nat → Int32) × Int32} (hf : f_X10_heavy l1 l2 z_s z_moveMany z_moves z_hands z_paint z_leasts z_isSeen z_classMany = some res) : MX l yX10_heavy cX10_heavy 5 (some .int) rm_X10_heavy G (mw G h z_thrown z_s z_kept z_isKept z_moveMany z_moves z_hands z_troubles z_troubleSorts z_troubleNumbers z_asked z_paint z_leasts z_isSeen z_classMany z_types z_typeCounts z_typeMany z_text z_signs z_at z_lacks z_clauses z_begun z_letters z_firsts z_seconds z_aside z_sorts z_sizes z_items) [.ref (h 0), .int l1, .int l2] (mw G h z_thrown z_s z_kept z_isKept res.2.1 res.2.2.1 res.2.2.2.1 z_troubles z_troubleSorts z_troubleNumbers z_asked res.2.2.2.2.1 res.2.2.2.2.2.1 res.2.2.2.2.2.2.1 res.2.2.2.2.2.2.2 z_types z_typeCounts z_typeMany z_text z_signs z_at z_lacks z_clauses z_begun z_letters z_firsts z_seconds z_aside z_sorts z_sizes z_items) (some (.int res.1)) 0 0 := by
  refine MX.of (plainFor_of_name (by decide)) (Nat.le_of_ble_eq_true rfl) ?_
  intro p e s m below meth c A X E hI ls hl
  obtain ⟨hx, hb, hml, hown, hts, hr, hlk⟩ := id X
  have hl : lv_has ls 5 [(0, .ref (h 0)), (1, .int l1), (2, .int l2)] := hl
  unfold f_X10_heavy at hf
  refine lv_iload_n (pc := 0) hx hb dX10_heavy_0 rfl (lv_at hl 1 rfl) ?_
  obtain ⟨t1, e1, hf⟩ := q_ob hf
  refine x_cSn (pc := 1) (st1 := [.int t1]) X E hI (c_X10_isBy l G e1) ks_X10_222 hd_X10_isBy ⟨rfl, rfl⟩ (by decide) rfl hl.1 rfl (Nat.le_of_ble_eq_true rfl) dX10_heavy_1 ⟨Nat.le_of_ble_eq_true rfl, Nat.le_of_ble_eq_true rfl⟩ rfl (fun H locs hI => ?_)
  refine lv_if_ne (pc := 4) (tgt := 9) hx hb dX10_heavy_4 (by decide) (fun c2 => ?_) (fun c2 => ?_)
  · have hf := q_in c2 hf
    refine lv_iload_n (pc := 9) hx hb dX10_heavy_9 rfl (lv_at hl 2 rfl) ?_
    refine lv_i2l (pc := 10) (v := (l2 : Int32).toInt64) hx hb dX10_heavy_10 rfl ?_
    refine lv_lconst (pc := 11) (v := 0) hx hb dX10_heavy_11 (by decide) ?_
    refine lv_ldc2 (pc := 12) (v := 99) hx hb hown (hts _ tw_5_91) dX10_heavy_12 ?_
    obtain ⟨t3, e3, hf⟩ := q_ob hf
    refine x_cSn (pc := 15) (st1 := [.int t3]) X E hI (c_X10_in l G e3) ks_X10_85 hd_X10_in ⟨rfl, rfl⟩ (by decide) rfl hl.1 rfl (Nat.le_of_ble_eq_true rfl) dX10_heavy_15 ⟨Nat.le_of_ble_eq_true rfl, Nat.le_of_ble_eq_true rfl⟩ rfl (fun H locs hI => ?_)
    refine lv_if_ne (pc := 18) (tgt := 24) hx hb dX10_heavy_18 (by decide) (fun c4 => ?_) (fun c4 => ?_)
    · have hf := q_in c4 hf
      refine lv_aload_n (pc := 24) hx hb dX10_heavy_24 rfl (lv_at hl 0 rfl) ?_
      refine lv_iload_n (pc := 25) hx hb dX10_heavy_25 rfl (lv_at hl 1 rfl) ?_
      obtain ⟨t5, e5, hf⟩ := q_ob hf
      refine x_cVs (pc := 26) (st1 := []) (w1 := (mw G h z_thrown z_s z_kept z_isKept t5.1 t5.2.1 t5.2.2.1 z_troubles z_troubleSorts z_troubleNumbers z_asked t5.2.2.2.1 t5.2.2.2.2.1 t5.2.2.2.2.2.1 t5.2.2.2.2.2.2 z_types z_typeCounts z_typeMany z_text z_signs z_at z_lacks z_clauses z_begun z_letters z_firsts z_seconds z_aside z_sorts z_sizes z_items)) X E hI (c_X10_allClasses l G h e5) kv_X10_204 hd_X10_allClasses ⟨rfl, rfl⟩ (by decide) 0 rfl rfl rfl rfl hl.1 rfl (Nat.le_of_ble_eq_true rfl) dX10_heavy_26 ⟨Nat.le_of_ble_eq_true rfl, Nat.le_of_ble_eq_true rfl⟩ rfl (fun H locs hI => ?_)
      refine lv_iconst (pc := 29) (v := 0) hx hb dX10_heavy_29 (by decide) ?_
      refine lv_istore_n (pc := 30) (lv' := [(3, .int 0), (0, .ref (h 0)), (1, .int l1), (2, .int l2)]) hx hb dX10_heavy_30 rfl hl (by decide) rfl (fun ls hl => ?_)
      refine lv_iconst (pc := 31) (v := 0) hx hb dX10_heavy_31 (by decide) ?_
      refine lv_istore (pc := 32) (lv' := [(4, .int 0), (3, .int 0), (0, .ref (h 0)), (1, .int l1), (2, .int l2)]) hx hb dX10_heavy_32 hl (by decide) rfl (fun ls hl => ?_)
      refine k_X10_heavy_L34 X E (fun l3_6 l4_6 z_paint_6 H locs ls hI hl hf => ?_) hI (lv_sub hl [2, 4, 1, 0] rfl) hf
      refine lv_iload_n (pc := 72) hx hb dX10_heavy_72 rfl (lv_at hl 2 rfl) ?_
      obtain rfl := Option.some.inj hf
      exact x_iret X hI dX10_heavy_73
    · have hf := q_ip c4 hf
      refine lv_bipush (pc := 21) (v := (-2)) hx hb dX10_heavy_21 (by decide) ?_
      obtain rfl := Option.some.inj hf
      exact x_iret X hI dX10_heavy_23
  · have hf := q_ip c2 hf
    refine lv_iconst (pc := 7) (v := (-1)) hx hb dX10_heavy_7 (by decide) ?_
    obtain rfl := Option.some.inj hf
    exact x_iret X hI dX10_heavy_8

abbrev rm_X10_use : Room := { frames := 7, cells := 0, slots := 0, locals := 153 }
set_option maxHeartbeats 4000000 in
set_option maxRecDepth 100000 in
theorem k_X10_use_L34 {p : Program} {l : Launch} {e : Env} {s : State} {m : MethodId} {args : Array Value} {below : List Frame} {meth : Method} {c : Code} {A : Nat → Prop} {G : GX} {h : Nat → Nat} {l2 : Int32} {z_thrown : Int32} {z_s : Nat → Int32} {z_kept : Nat → Int32} {z_isKept : Int32} {z_moveMany : Int32} {z_moves : Nat → Int32} {z_hands : Nat → Int32} {z_troubles : Int32} {z_troubleSorts : Nat → Int32} {z_troubleNumbers : Nat → Int32} {z_asked : Nat → Int32} {z_leasts : Nat → Int32} {z_isSeen : Nat → Int32} {z_classMany : Int32} {z_types : Nat → Int32} {z_typeCounts : Nat → Int32} {z_typeMany : Int32} {z_text : Nat → Int32} {z_signs : Int32} {z_at : Int32} {z_lacks : Int32} {z_clauses : Int32} {z_begun : Int32} {z_letters : Nat → Int32} {z_firsts : Nat → Int32} {z_seconds : Nat → Int32} {z_aside : Nat → Int32} {z_sorts : Nat → Int32} {z_sizes : Nat → Int32} {z_items : Nat → Int64} {K : Int32 → Int32 → (Nat → Int32) → Option (Int32 × Int32 × (Nat → Int32) × (Nat → Int32) × (Nat → Int32) × (Nat → Int32) × (Nat → Int32) × Int32)} {res : Int32 × Int32 × (Nat → Int32) × (Nat → Int32) × (Nat → Int32) × (Nat → Int32) × (Nat → Int32) × Int32} (X : CX RX10 cX10_use 5 (some .int) p s m args meth c) (E : EX G A s)
    (hK : ∀ (l3 : Int32) (l4 : Int32) (z_paint : (Nat → Int32)) (H : Heap) (locs : List Loc) (ls : Array Slot), IN A G (mw G h z_thrown z_s z_kept z_isKept z_moveMany z_moves z_hands z_troubles z_troubleSorts z_troubleNumbers z_asked z_paint z_leasts z_isSeen z_classMany z_types z_typeCounts z_typeMany z_text z_signs z_at z_lacks z_clauses z_begun z_letters z_firsts z_seconds z_aside z_sorts z_sizes z_items) s H locs → lv_has ls 5 [(0, .ref (h 0)), (2, .int l2), (3, .int l3), (4, .int l4)] → K l3 l4 z_paint = some res → W p l e rm_X10_use s m args below meth c H locs 0 0 (MQ below (QX G A (mw G h z_thrown z_s z_kept z_isKept res.2.1 res.2.2.1 res.2.2.2.1 z_troubles z_troubleSorts z_troubleNumbers z_asked res.2.2.2.2.1 res.2.2.2.2.2.1 res.2.2.2.2.2.2.1 res.2.2.2.2.2.2.2 z_types z_typeCounts z_typeMany z_text z_signs z_at z_lacks z_clauses z_begun z_letters z_firsts z_seconds z_aside z_sorts z_sizes z_items) (some (.int res.1))) args s 0 0 A) (F0 m 72 ls [])) :
    ∀ {k : Nat} {l3 : Int32} {l4 : Int32} {z_paint : (Nat → Int32)} {H : Heap} {locs : List Loc} {ls : Array Slot}, IN A G (mw G h z_thrown z_s z_kept z_isKept z_moveMany z_moves z_hands z_troubles z_troubleSorts z_troubleNumbers z_asked z_paint z_leasts z_isSeen z_classMany z_types z_typeCounts z_typeMany z_text z_signs z_at z_lacks z_clauses z_begun z_letters z_firsts z_seconds z_aside z_sorts z_sizes z_items) s H locs → lv_has ls 5 [(0, .ref (h 0)), (2, .int l2), (3, .int l3), (4, .int l4)] → f_X10_use_L34 l2 z_s z_leasts z_classMany K k l3 l4 z_paint = some res → W p l e rm_X10_use s m args below meth c H locs 0 0 (MQ below (QX G A (mw G h z_thrown z_s z_kept z_isKept res.2.1 res.2.2.1 res.2.2.2.1 z_troubles z_troubleSorts z_troubleNumbers z_asked res.2.2.2.2.1 res.2.2.2.2.2.1 res.2.2.2.2.2.2.1 res.2.2.2.2.2.2.2 z_types z_typeCounts z_typeMany z_text z_signs z_at z_lacks z_clauses z_begun z_letters z_firsts z_seconds z_aside z_sorts z_sizes z_items) (some (.int res.1))) args s 0 0 A) (F0 m 34 ls []) := by
  obtain ⟨hx, hb, hml, hown, hts, hr, hlk⟩ := id X
  intro k
  induction k with
  | zero => intro l3 l4 z_paint H locs ls hI hl hf; exact nomatch (show none = some res from hf)
  | succ k ih =>
    intro l3 l4 z_paint H locs ls hI hl hf
    rw [f_X10_use_L34] at hf
    refine lv_iload (pc := 34) hx hb dX10_use_34 (lv_at hl 3 rfl) ?_
    refine lv_aload_n (pc := 36) hx hb dX10_use_36 rfl (lv_at hl 0 rfl) ?_
    refine x_get (pc := 37) X E hI inX10 0 rfl rfl 14 (by decide) tw_4_3 rfl dX10_use_37 ?_
    refine lv_icmp_ge (pc := 40) (tgt := 72) hx hb dX10_use_40 (by decide) (fun c1 => ?_) (fun c1 => ?_)
    · have hf := q_ip c1 hf
      exact hK _ _ _ _ _ _ hI (lv_sub hl [0, 1, 2, 3] rfl) hf
    · have hf := q_in c1 hf
      refine lv_iload_n (pc := 43) hx hb dX10_use_43 rfl (lv_at hl 2 rfl) ?_
      refine lv_aload_n (pc := 44) hx hb dX10_use_44 rfl (lv_at hl 0 rfl) ?_
      refine lv_aload_n (pc := 45) hx hb dX10_use_45 rfl (lv_at hl 0 rfl) ?_
      refine x_get (pc := 46) X E hI inX10 0 rfl rfl 12 (by decide) tw_4_1 rfl dX10_use_46 ?_
      refine lv_iload (pc := 49) hx hb dX10_use_49 (lv_at hl 3 rfl) ?_
      obtain ⟨t2, e2, hf⟩ := q_ob hf
      refine x_iald (pc := 51) X E hI 9 rfl e2 dX10_use_51 ?_
      obtain ⟨t3, e3, hf⟩ := q_ob hf
      refine x_cVs (pc := 52) (st1 := [.int t3.1, .int l3]) (w1 := (mw G h z_thrown z_s z_kept z_isKept z_moveMany z_moves z_hands z_troubles z_troubleSorts z_troubleNumbers z_asked t3.2 z_leasts z_isSeen z_classMany z_types z_typeCounts z_typeMany z_text z_signs z_at z_lacks z_clauses z_begun z_letters z_firsts z_seconds z_aside z_sorts z_sizes z_items)) X E hI (c_X10_useOf l G h e3) kv_X10_245 hd_X10_useOf ⟨rfl, rfl⟩ (by decide) 0 rfl rfl rfl rfl hl.1 rfl (Nat.le_of_ble_eq_true rfl) dX10_use_52 ⟨Nat.le_of_ble_eq_true rfl, Nat.le_of_ble_eq_true rfl⟩ rfl (fun H locs hI => ?_)
      refine lv_iload_n (pc := 55) hx hb dX10_use_55 rfl (lv_at hl 1 rfl) ?_
      refine lv_icmp_ne (pc := 56) (tgt := 63) hx hb dX10_use_56 (by decide) (fun c4 => ?_) (fun c4 => ?_)
      · have hf := q_in c4 hf
        refine lv_iconst (pc := 63) (v := 0) hx hb dX10_use_63 (by decide) ?_
        refine lv_iadd (pc := 64) hx hb dX10_use_64 ?_
        refine lv_istore_n (pc := 65) (lv' := [(3, .int (l3 + 0)), (0, .ref (h 0)), (2, .int l2), (4, .int l4)]) hx hb dX10_use_65 rfl hl (by decide) rfl (fun ls hl => ?_)
        refine lv_iinc (pc := 66) (v := l4 + 1) (lv' := [(4, .int (l4 + 1)), (3, .int (l3 + 0)), (0, .ref (h 0)), (2, .int l2)]) hx hb dX10_use_66 hl (k := 3) rfl rfl (by decide) rfl (fun ls hl => ?_)
        refine lv_goto (pc := 69) (tgt := 34) hx hb dX10_use_69 (by decide) ?_
        exact ih hI (lv_sub hl [2, 3, 1, 0] rfl) hf
      · have hf := q_ip c4 hf
        refine lv_iconst (pc := 59) (v := 1) hx hb dX10_use_59 (by decide) ?_
        refine lv_goto (pc := 60) (tgt := 64) hx hb dX10_use_60 (by decide) ?_
        refine lv_iadd (pc := 64) hx hb dX10_use_64 ?_
        refine lv_istore_n (pc := 65) (lv' := [(3, .int (l3 + 1)), (0, .ref (h 0)), (2, .int l2), (4, .int l4)]) hx hb dX10_use_65 rfl hl (by decide) rfl (fun ls hl => ?_)
        refine lv_iinc (pc := 66) (v := l4 + 1) (lv' := [(4, .int (l4 + 1)), (3, .int (l3 + 1)), (0, .ref (h 0)), (2, .int l2)]) hx hb dX10_use_66 hl (k := 3) rfl rfl (by decide) rfl (fun ls hl => ?_)
        refine lv_goto (pc := 69) (tgt := 34) hx hb dX10_use_69 (by decide) ?_
        exact ih hI (lv_sub hl [2, 3, 1, 0] rfl) hf

set_option maxHeartbeats 4000000 in
set_option maxRecDepth 100000 in
theorem c_X10_use (l : Launch) (G : GX) (h : Nat → Nat) {l1 : Int32} {l2 : Int32} {z_s : Nat → Int32} {z_moveMany : Int32} {z_moves : Nat → Int32} {z_hands : Nat → Int32} {z_paint : Nat → Int32} {z_leasts : Nat → Int32} {z_isSeen : Nat → Int32} {z_classMany : Int32} {z_thrown : Int32} {z_kept : Nat → Int32} {z_isKept : Int32} {z_troubles : Int32} {z_troubleSorts : Nat → Int32} {z_troubleNumbers : Nat → Int32} {z_asked : Nat → Int32} {z_types : Nat → Int32} {z_typeCounts : Nat → Int32} {z_typeMany : Int32} {z_text : Nat → Int32} {z_signs : Int32} {z_at : Int32} {z_lacks : Int32} {z_clauses : Int32} {z_begun : Int32} {z_letters : Nat → Int32} {z_firsts : Nat → Int32} {z_seconds : Nat → Int32} {z_aside : Nat → Int32} {z_sorts : Nat → Int32} {z_sizes : Nat → Int32} {z_items : Nat → Int64} {res : Int32 × Int32 × (Nat → Int32) × (Nat → Int32) × (Nat → Int32) × (Nat → Int32) × (Nat → Int32) × Int32} (hf : f_X10_use l1 l2 z_s z_moveMany z_moves z_hands z_paint z_leasts z_isSeen z_classMany = some res) : MX l yX10_use cX10_use 5 (some .int) rm_X10_use G (mw G h z_thrown z_s z_kept z_isKept z_moveMany z_moves z_hands z_troubles z_troubleSorts z_troubleNumbers z_asked z_paint z_leasts z_isSeen z_classMany z_types z_typeCounts z_typeMany z_text z_signs z_at z_lacks z_clauses z_begun z_letters z_firsts z_seconds z_aside z_sorts z_sizes z_items) [.ref (h 0), .int l1, .int l2] (mw G h z_thrown z_s z_kept z_isKept res.2.1 res.2.2.1 res.2.2.2.1 z_troubles z_troubleSorts z_troubleNumbers z_asked res.2.2.2.2.1 res.2.2.2.2.2.1 res.2.2.2.2.2.2.1 res.2.2.2.2.2.2.2 z_types z_typeCounts z_typeMany z_text z_signs z_at z_lacks z_clauses z_begun z_letters z_firsts z_seconds z_aside z_sorts z_sizes z_items) (some (.int res.1)) 0 0 := by
  refine MX.of (plainFor_of_name (by decide)) (Nat.le_of_ble_eq_true rfl) ?_
  intro p e s m below meth c A X E hI ls hl
  obtain ⟨hx, hb, hml, hown, hts, hr, hlk⟩ := id X
  have hl : lv_has ls 5 [(0, .ref (h 0)), (1, .int l1), (2, .int l2)] := hl
  unfold f_X10_use at hf
  refine lv_iload_n (pc := 0) hx hb dX10_use_0 rfl (lv_at hl 1 rfl) ?_
  obtain ⟨t1, e1, hf⟩ := q_ob hf
  refine x_cSn (pc := 1) (st1 := [.int t1]) X E hI (c_X10_isBy l G e1) ks_X10_222 hd_X10_isBy ⟨rfl, rfl⟩ (by decide) rfl hl.1 rfl (Nat.le_of_ble_eq_true rfl) dX10_use_1 ⟨Nat.le_of_ble_eq_true rfl, Nat.le_of_ble_eq_true rfl⟩ rfl (fun H locs hI => ?_)
  refine lv_if_ne (pc := 4) (tgt := 9) hx hb dX10_use_4 (by decide) (fun c2 => ?_) (fun c2 => ?_)
  · have hf := q_in c2 hf
    refine lv_iload_n (pc := 9) hx hb dX10_use_9 rfl (lv_at hl 2 rfl) ?_
    refine lv_i2l (pc := 10) (v := (l2 : Int32).toInt64) hx hb dX10_use_10 rfl ?_
    refine lv_lconst (pc := 11) (v := 0) hx hb dX10_use_11 (by decide) ?_
    refine lv_ldc2 (pc := 12) (v := 9999) hx hb hown (hts _ tw_5_96) dX10_use_12 ?_
    obtain ⟨t3, e3, hf⟩ := q_ob hf
    refine x_cSn (pc := 15) (st1 := [.int t3]) X E hI (c_X10_in l G e3) ks_X10_85 hd_X10_in ⟨rfl, rfl⟩ (by decide) rfl hl.1 rfl (Nat.le_of_ble_eq_true rfl) dX10_use_15 ⟨Nat.le_of_ble_eq_true rfl, Nat.le_of_ble_eq_true rfl⟩ rfl (fun H locs hI => ?_)
    refine lv_if_ne (pc := 18) (tgt := 24) hx hb dX10_use_18 (by decide) (fun c4 => ?_) (fun c4 => ?_)
    · have hf := q_in c4 hf
      refine lv_aload_n (pc := 24) hx hb dX10_use_24 rfl (lv_at hl 0 rfl) ?_
      refine lv_iload_n (pc := 25) hx hb dX10_use_25 rfl (lv_at hl 1 rfl) ?_
      obtain ⟨t5, e5, hf⟩ := q_ob hf
      refine x_cVs (pc := 26) (st1 := []) (w1 := (mw G h z_thrown z_s z_kept z_isKept t5.1 t5.2.1 t5.2.2.1 z_troubles z_troubleSorts z_troubleNumbers z_asked t5.2.2.2.1 t5.2.2.2.2.1 t5.2.2.2.2.2.1 t5.2.2.2.2.2.2 z_types z_typeCounts z_typeMany z_text z_signs z_at z_lacks z_clauses z_begun z_letters z_firsts z_seconds z_aside z_sorts z_sizes z_items)) X E hI (c_X10_allClasses l G h e5) kv_X10_204 hd_X10_allClasses ⟨rfl, rfl⟩ (by decide) 0 rfl rfl rfl rfl hl.1 rfl (Nat.le_of_ble_eq_true rfl) dX10_use_26 ⟨Nat.le_of_ble_eq_true rfl, Nat.le_of_ble_eq_true rfl⟩ rfl (fun H locs hI => ?_)
      refine lv_iconst (pc := 29) (v := 0) hx hb dX10_use_29 (by decide) ?_
      refine lv_istore_n (pc := 30) (lv' := [(3, .int 0), (0, .ref (h 0)), (1, .int l1), (2, .int l2)]) hx hb dX10_use_30 rfl hl (by decide) rfl (fun ls hl => ?_)
      refine lv_iconst (pc := 31) (v := 0) hx hb dX10_use_31 (by decide) ?_
      refine lv_istore (pc := 32) (lv' := [(4, .int 0), (3, .int 0), (0, .ref (h 0)), (1, .int l1), (2, .int l2)]) hx hb dX10_use_32 hl (by decide) rfl (fun ls hl => ?_)
      refine k_X10_use_L34 X E (fun l3_6 l4_6 z_paint_6 H locs ls hI hl hf => ?_) hI (lv_sub hl [2, 4, 1, 0] rfl) hf
      refine lv_iload_n (pc := 72) hx hb dX10_use_72 rfl (lv_at hl 2 rfl) ?_
      obtain rfl := Option.some.inj hf
      exact x_iret X hI dX10_use_73
    · have hf := q_ip c4 hf
      refine lv_bipush (pc := 21) (v := (-2)) hx hb dX10_use_21 (by decide) ?_
      obtain rfl := Option.some.inj hf
      exact x_iret X hI dX10_use_23
  · have hf := q_ip c2 hf
    refine lv_iconst (pc := 7) (v := (-1)) hx hb dX10_use_7 (by decide) ?_
    obtain rfl := Option.some.inj hf
    exact x_iret X hI dX10_use_8

abbrev rm_X10_same : Room := { frames := 6, cells := 0, slots := 0, locals := 132 }
set_option maxHeartbeats 4000000 in
set_option maxRecDepth 100000 in
theorem c_X10_same (l : Launch) (G : GX) (h : Nat → Nat) {l1 : Int32} {l2 : Int32} {l3 : Int32} {z_s : Nat → Int32} {z_moveMany : Int32} {z_moves : Nat → Int32} {z_hands : Nat → Int32} {z_paint : Nat → Int32} {z_thrown : Int32} {z_kept : Nat → Int32} {z_isKept : Int32} {z_troubles : Int32} {z_troubleSorts : Nat → Int32} {z_troubleNumbers : Nat → Int32} {z_asked : Nat → Int32} {z_leasts : Nat → Int32} {z_isSeen : Nat → Int32} {z_classMany : Int32} {z_types : Nat → Int32} {z_typeCounts : Nat → Int32} {z_typeMany : Int32} {z_text : Nat → Int32} {z_signs : Int32} {z_at : Int32} {z_lacks : Int32} {z_clauses : Int32} {z_begun : Int32} {z_letters : Nat → Int32} {z_firsts : Nat → Int32} {z_seconds : Nat → Int32} {z_aside : Nat → Int32} {z_sorts : Nat → Int32} {z_sizes : Nat → Int32} {z_items : Nat → Int64} {res : Int32 × Int32 × (Nat → Int32) × (Nat → Int32) × (Nat → Int32)} (hf : f_X10_same l1 l2 l3 z_s z_moveMany z_moves z_hands z_paint = some res) : MX l yX10_same cX10_same 6 (some .int) rm_X10_same G (mw G h z_thrown z_s z_kept z_isKept z_moveMany z_moves z_hands z_troubles z_troubleSorts z_troubleNumbers z_asked z_paint z_leasts z_isSeen z_classMany z_types z_typeCounts z_typeMany z_text z_signs z_at z_lacks z_clauses z_begun z_letters z_firsts z_seconds z_aside z_sorts z_sizes z_items) [.ref (h 0), .int l1, .int l2, .int l3] (mw G h z_thrown z_s z_kept z_isKept res.2.1 res.2.2.1 res.2.2.2.1 z_troubles z_troubleSorts z_troubleNumbers z_asked res.2.2.2.2 z_leasts z_isSeen z_classMany z_types z_typeCounts z_typeMany z_text z_signs z_at z_lacks z_clauses z_begun z_letters z_firsts z_seconds z_aside z_sorts z_sizes z_items) (some (.int res.1)) 0 0 := by
  refine MX.of (plainFor_of_name (by decide)) (Nat.le_of_ble_eq_true rfl) ?_
  intro p e s m below meth c A X E hI ls hl
  obtain ⟨hx, hb, hml, hown, hts, hr, hlk⟩ := id X
  have hl : lv_has ls 6 [(0, .ref (h 0)), (1, .int l1), (2, .int l2), (3, .int l3)] := hl
  unfold f_X10_same at hf
  refine lv_iload_n (pc := 0) hx hb dX10_same_0 rfl (lv_at hl 1 rfl) ?_
  obtain ⟨t1, e1, hf⟩ := q_ob hf
  refine x_cSn (pc := 1) (st1 := [.int t1]) X E hI (c_X10_isBy l G e1) ks_X10_222 hd_X10_isBy ⟨rfl, rfl⟩ (by decide) rfl hl.1 rfl (Nat.le_of_ble_eq_true rfl) dX10_same_1 ⟨Nat.le_of_ble_eq_true rfl, Nat.le_of_ble_eq_true rfl⟩ rfl (fun H locs hI => ?_)
  refine lv_if_ne (pc := 4) (tgt := 9) hx hb dX10_same_4 (by decide) (fun c2 => ?_) (fun c2 => ?_)
  · have hf := q_in c2 hf
    refine lv_aload_n (pc := 9) hx hb dX10_same_9 rfl (lv_at hl 0 rfl) ?_
    refine lv_iload_n (pc := 10) hx hb dX10_same_10 rfl (lv_at hl 2 rfl) ?_
    obtain ⟨t3, e3, hf⟩ := q_ob hf
    refine x_cVs (pc := 11) (st1 := [.int t3]) (w1 := (mw G h z_thrown z_s z_kept z_isKept z_moveMany z_moves z_hands z_troubles z_troubleSorts z_troubleNumbers z_asked z_paint z_leasts z_isSeen z_classMany z_types z_typeCounts z_typeMany z_text z_signs z_at z_lacks z_clauses z_begun z_letters z_firsts z_seconds z_aside z_sorts z_sizes z_items)) X E hI (c_X10_indexOf l G h e3) kv_X10_233 hd_X10_indexOf ⟨rfl, rfl⟩ (by decide) 0 rfl rfl rfl rfl hl.1 rfl (Nat.le_of_ble_eq_true rfl) dX10_same_11 ⟨Nat.le_of_ble_eq_true rfl, Nat.le_of_ble_eq_true rfl⟩ rfl (fun H locs hI => ?_)
    refine lv_istore (pc := 14) (lv' := [(4, .int t3), (0, .ref (h 0)), (1, .int l1), (2, .int l2), (3, .int l3)]) hx hb dX10_same_14 hl (by decide) rfl (fun ls hl => ?_)
    refine lv_aload_n (pc := 16) hx hb dX10_same_16 rfl (lv_at hl 1 rfl) ?_
    refine lv_iload_n (pc := 17) hx hb dX10_same_17 rfl (lv_at hl 4 rfl) ?_
    obtain ⟨t4, e4, hf⟩ := q_ob hf
    refine x_cVs (pc := 18) (st1 := [.int t4]) (w1 := (mw G h z_thrown z_s z_kept z_isKept z_moveMany z_moves z_hands z_troubles z_troubleSorts z_troubleNumbers z_asked z_paint z_leasts z_isSeen z_classMany z_types z_typeCounts z_typeMany z_text z_signs z_at z_lacks z_clauses z_begun z_letters z_firsts z_seconds z_aside z_sorts z_sizes z_items)) X E hI (c_X10_indexOf l G h e4) kv_X10_233 hd_X10_indexOf ⟨rfl, rfl⟩ (by decide) 0 rfl rfl rfl rfl hl.1 rfl (Nat.le_of_ble_eq_true rfl) dX10_same_18 ⟨Nat.le_of_ble_eq_true rfl, Nat.le_of_ble_eq_true rfl⟩ rfl (fun H locs hI => ?_)
    refine lv_istore (pc := 21) (lv' := [(5, .int t4), (4, .int t3), (0, .ref (h 0)), (1, .int l1), (2, .int l2), (3, .int l3)]) hx hb dX10_same_21 hl (by decide) rfl (fun ls hl => ?_)
    refine lv_iload (pc := 23) hx hb dX10_same_23 (lv_at hl 1 rfl) ?_
    refine lv_iconst (pc := 25) (v := (-1)) hx hb dX10_same_25 (by decide) ?_
    refine lv_icmp_eq (pc := 26) (tgt := 35) hx hb dX10_same_26 (by decide) (fun c5 => ?_) (fun c5 => ?_)
    · have hf := q_ip c5 hf
      refine lv_bipush (pc := 35) (v := (-2)) hx hb dX10_same_35 (by decide) ?_
      obtain rfl := Option.some.inj hf
      exact x_iret X hI dX10_same_37
    · have hf := q_in c5 hf
      refine lv_iload (pc := 29) hx hb dX10_same_29 (lv_at hl 0 rfl) ?_
      refine lv_iconst (pc := 31) (v := (-1)) hx hb dX10_same_31 (by decide) ?_
      refine lv_icmp_ne (pc := 32) (tgt := 38) hx hb dX10_same_32 (by decide) (fun c6 => ?_) (fun c6 => ?_)
      · have hf := q_in c6 hf
        refine lv_aload_n (pc := 38) hx hb dX10_same_38 rfl (lv_at hl 2 rfl) ?_
        obtain ⟨t7, e7, hf⟩ := q_ob hf
        refine x_cVs (pc := 39) (st1 := []) (w1 := (mw G h z_thrown z_s z_kept z_isKept t7.1 t7.2.1 t7.2.2 z_troubles z_troubleSorts z_troubleNumbers z_asked z_paint z_leasts z_isSeen z_classMany z_types z_typeCounts z_typeMany z_text z_signs z_at z_lacks z_clauses z_begun z_letters z_firsts z_seconds z_aside z_sorts z_sizes z_items)) X E hI (c_X10_moves_ l G h e7) kv_X10_163 hd_X10_moves_ ⟨rfl, rfl⟩ (by decide) 0 rfl rfl rfl rfl hl.1 rfl (Nat.le_of_ble_eq_true rfl) dX10_same_39 ⟨Nat.le_of_ble_eq_true rfl, Nat.le_of_ble_eq_true rfl⟩ rfl (fun H locs hI => ?_)
        refine lv_aload_n (pc := 42) hx hb dX10_same_42 rfl (lv_at hl 2 rfl) ?_
        refine lv_iload_n (pc := 43) hx hb dX10_same_43 rfl (lv_at hl 3 rfl) ?_
        refine lv_iload (pc := 44) hx hb dX10_same_44 (lv_at hl 1 rfl) ?_
        obtain ⟨t8, e8, hf⟩ := q_ob hf
        refine x_cVs (pc := 46) (st1 := [.int t8.1]) (w1 := (mw G h z_thrown z_s z_kept z_isKept t7.1 t7.2.1 t7.2.2 z_troubles z_troubleSorts z_troubleNumbers z_asked t8.2 z_leasts z_isSeen z_classMany z_types z_typeCounts z_typeMany z_text z_signs z_at z_lacks z_clauses z_begun z_letters z_firsts z_seconds z_aside z_sorts z_sizes z_items)) X E hI (c_X10_leastOf l G h e8) kv_X10_195 hd_X10_leastOf ⟨rfl, rfl⟩ (by decide) 0 rfl rfl rfl rfl hl.1 rfl (Nat.le_of_ble_eq_true rfl) dX10_same_46 ⟨Nat.le_of_ble_eq_true rfl, Nat.le_of_ble_eq_true rfl⟩ rfl (fun H locs hI => ?_)
        refine lv_aload_n (pc := 49) hx hb dX10_same_49 rfl (lv_at hl 2 rfl) ?_
        refine lv_iload_n (pc := 50) hx hb dX10_same_50 rfl (lv_at hl 3 rfl) ?_
        refine lv_iload (pc := 51) hx hb dX10_same_51 (lv_at hl 0 rfl) ?_
        obtain ⟨t9, e9, hf⟩ := q_ob hf
        refine x_cVs (pc := 53) (st1 := [.int t9.1, .int t8.1]) (w1 := (mw G h z_thrown z_s z_kept z_isKept t7.1 t7.2.1 t7.2.2 z_troubles z_troubleSorts z_troubleNumbers z_asked t9.2 z_leasts z_isSeen z_classMany z_types z_typeCounts z_typeMany z_text z_signs z_at z_lacks z_clauses z_begun z_letters z_firsts z_seconds z_aside z_sorts z_sizes z_items)) X E hI (c_X10_leastOf l G h e9) kv_X10_195 hd_X10_leastOf ⟨rfl, rfl⟩ (by decide) 0 rfl rfl rfl rfl hl.1 rfl (Nat.le_of_ble_eq_true rfl) dX10_same_53 ⟨Nat.le_of_ble_eq_true rfl, Nat.le_of_ble_eq_true rfl⟩ rfl (fun H locs hI => ?_)
        refine lv_icmp_ne (pc := 56) (tgt := 63) hx hb dX10_same_56 (by decide) (fun c10 => ?_) (fun c10 => ?_)
        · have hf := q_in c10 hf
          refine lv_iconst (pc := 63) (v := 0) hx hb dX10_same_63 (by decide) ?_
          obtain rfl := Option.some.inj hf
          exact x_iret X hI dX10_same_64
        · have hf := q_ip c10 hf
          refine lv_iconst (pc := 59) (v := 1) hx hb dX10_same_59 (by decide) ?_
          refine lv_goto (pc := 60) (tgt := 64) hx hb dX10_same_60 (by decide) ?_
          obtain rfl := Option.some.inj hf
          exact x_iret X hI dX10_same_64
      · have hf := q_ip c6 hf
        refine lv_bipush (pc := 35) (v := (-2)) hx hb dX10_same_35 (by decide) ?_
        obtain rfl := Option.some.inj hf
        exact x_iret X hI dX10_same_37
  · have hf := q_ip c2 hf
    refine lv_iconst (pc := 7) (v := (-1)) hx hb dX10_same_7 (by decide) ?_
    obtain rfl := Option.some.inj hf
    exact x_iret X hI dX10_same_8

abbrev rm_X10_handed : Room := { frames := 6, cells := 0, slots := 0, locals := 132 }
set_option maxHeartbeats 4000000 in
set_option maxRecDepth 100000 in
theorem c_X10_handed (l : Launch) (G : GX) (h : Nat → Nat) {l1 : Int32} {l2 : Int32} {z_s : Nat → Int32} {z_moveMany : Int32} {z_moves : Nat → Int32} {z_hands : Nat → Int32} {z_paint : Nat → Int32} {z_thrown : Int32} {z_kept : Nat → Int32} {z_isKept : Int32} {z_troubles : Int32} {z_troubleSorts : Nat → Int32} {z_troubleNumbers : Nat → Int32} {z_asked : Nat → Int32} {z_leasts : Nat → Int32} {z_isSeen : Nat → Int32} {z_classMany : Int32} {z_types : Nat → Int32} {z_typeCounts : Nat → Int32} {z_typeMany : Int32} {z_text : Nat → Int32} {z_signs : Int32} {z_at : Int32} {z_lacks : Int32} {z_clauses : Int32} {z_begun : Int32} {z_letters : Nat → Int32} {z_firsts : Nat → Int32} {z_seconds : Nat → Int32} {z_aside : Nat → Int32} {z_sorts : Nat → Int32} {z_sizes : Nat → Int32} {z_items : Nat → Int64} {res : Int32 × Int32 × (Nat → Int32) × (Nat → Int32) × (Nat → Int32)} (hf : f_X10_handed l1 l2 z_s z_moveMany z_moves z_hands z_paint = some res) : MX l yX10_handed cX10_handed 4 (some .int) rm_X10_handed G (mw G h z_thrown z_s z_kept z_isKept z_moveMany z_moves z_hands z_troubles z_troubleSorts z_troubleNumbers z_asked z_paint z_leasts z_isSeen z_classMany z_types z_typeCounts z_typeMany z_text z_signs z_at z_lacks z_clauses z_begun z_letters z_firsts z_seconds z_aside z_sorts z_sizes z_items) [.ref (h 0), .int l1, .int l2] (mw G h z_thrown z_s z_kept z_isKept res.2.1 res.2.2.1 res.2.2.2.1 z_troubles z_troubleSorts z_troubleNumbers z_asked res.2.2.2.2 z_leasts z_isSeen z_classMany z_types z_typeCounts z_typeMany z_text z_signs z_at z_lacks z_clauses z_begun z_letters z_firsts z_seconds z_aside z_sorts z_sizes z_items) (some (.int res.1)) 0 0 := by
  refine MX.of (plainFor_of_name (by decide)) (Nat.le_of_ble_eq_true rfl) ?_
  intro p e s m below meth c A X E hI ls hl
  obtain ⟨hx, hb, hml, hown, hts, hr, hlk⟩ := id X
  have hl : lv_has ls 4 [(0, .ref (h 0)), (1, .int l1), (2, .int l2)] := hl
  unfold f_X10_handed at hf
  refine lv_iload_n (pc := 0) hx hb dX10_handed_0 rfl (lv_at hl 2 rfl) ?_
  refine lv_i2l (pc := 1) (v := (l2 : Int32).toInt64) hx hb dX10_handed_1 rfl ?_
  refine lv_lconst (pc := 2) (v := 0) hx hb dX10_handed_2 (by decide) ?_
  refine lv_lconst (pc := 3) (v := 1) hx hb dX10_handed_3 (by decide) ?_
  obtain ⟨t1, e1, hf⟩ := q_ob hf
  refine x_cSn (pc := 4) (st1 := [.int t1]) X E hI (c_X10_in l G e1) ks_X10_85 hd_X10_in ⟨rfl, rfl⟩ (by decide) rfl hl.1 rfl (Nat.le_of_ble_eq_true rfl) dX10_handed_4 ⟨Nat.le_of_ble_eq_true rfl, Nat.le_of_ble_eq_true rfl⟩ rfl (fun H locs hI => ?_)
  refine lv_if_ne (pc := 7) (tgt := 12) hx hb dX10_handed_7 (by decide) (fun c2 => ?_) (fun c2 => ?_)
  · have hf := q_in c2 hf
    refine lv_aload_n (pc := 12) hx hb dX10_handed_12 rfl (lv_at hl 0 rfl) ?_
    refine lv_iload_n (pc := 13) hx hb dX10_handed_13 rfl (lv_at hl 1 rfl) ?_
    obtain ⟨t3, e3, hf⟩ := q_ob hf
    refine x_cVs (pc := 14) (st1 := [.int t3]) (w1 := (mw G h z_thrown z_s z_kept z_isKept z_moveMany z_moves z_hands z_troubles z_troubleSorts z_troubleNumbers z_asked z_paint z_leasts z_isSeen z_classMany z_types z_typeCounts z_typeMany z_text z_signs z_at z_lacks z_clauses z_begun z_letters z_firsts z_seconds z_aside z_sorts z_sizes z_items)) X E hI (c_X10_indexOf l G h e3) kv_X10_233 hd_X10_indexOf ⟨rfl, rfl⟩ (by decide) 0 rfl rfl rfl rfl hl.1 rfl (Nat.le_of_ble_eq_true rfl) dX10_handed_14 ⟨Nat.le_of_ble_eq_true rfl, Nat.le_of_ble_eq_true rfl⟩ rfl (fun H locs hI => ?_)
    refine lv_istore_n (pc := 17) (lv' := [(3, .int t3), (0, .ref (h 0)), (1, .int l1), (2, .int l2)]) hx hb dX10_handed_17 rfl hl (by decide) rfl (fun ls hl => ?_)
    refine lv_iload_n (pc := 18) hx hb dX10_handed_18 rfl (lv_at hl 0 rfl) ?_
    refine lv_iconst (pc := 19) (v := (-1)) hx hb dX10_handed_19 (by decide) ?_
    refine lv_icmp_ne (pc := 20) (tgt := 26) hx hb dX10_handed_20 (by decide) (fun c4 => ?_) (fun c4 => ?_)
    · have hf := q_in c4 hf
      refine lv_aload_n (pc := 26) hx hb dX10_handed_26 rfl (lv_at hl 1 rfl) ?_
      obtain ⟨t5, e5, hf⟩ := q_ob hf
      refine x_cVs (pc := 27) (st1 := []) (w1 := (mw G h z_thrown z_s z_kept z_isKept t5.1 t5.2.1 t5.2.2 z_troubles z_troubleSorts z_troubleNumbers z_asked z_paint z_leasts z_isSeen z_classMany z_types z_typeCounts z_typeMany z_text z_signs z_at z_lacks z_clauses z_begun z_letters z_firsts z_seconds z_aside z_sorts z_sizes z_items)) X E hI (c_X10_moves_ l G h e5) kv_X10_163 hd_X10_moves_ ⟨rfl, rfl⟩ (by decide) 0 rfl rfl rfl rfl hl.1 rfl (Nat.le_of_ble_eq_true rfl) dX10_handed_27 ⟨Nat.le_of_ble_eq_true rfl, Nat.le_of_ble_eq_true rfl⟩ rfl (fun H locs hI => ?_)
      refine lv_iload_n (pc := 30) hx hb dX10_handed_30 rfl (lv_at hl 3 rfl) ?_
      refine lv_if_ne (pc := 31) (tgt := 48) hx hb dX10_handed_31 (by decide) (fun c6 => ?_) (fun c6 => ?_)
      · have hf := q_in c6 hf
        refine lv_aload_n (pc := 48) hx hb dX10_handed_48 rfl (lv_at hl 1 rfl) ?_
        obtain ⟨t7, e7, hf⟩ := q_ob hf
        refine x_cVs (pc := 49) (st1 := [.int t7]) (w1 := (mw G h z_thrown z_s z_kept z_isKept t5.1 t5.2.1 t5.2.2 z_troubles z_troubleSorts z_troubleNumbers z_asked z_paint z_leasts z_isSeen z_classMany z_types z_typeCounts z_typeMany z_text z_signs z_at z_lacks z_clauses z_begun z_letters z_firsts z_seconds z_aside z_sorts z_sizes z_items)) X E hI (c_X10_mirrors l G h e7) kv_X10_198 hd_X10_mirrors ⟨rfl, rfl⟩ (by decide) 0 rfl rfl rfl rfl hl.1 rfl (Nat.le_of_ble_eq_true rfl) dX10_handed_49 ⟨Nat.le_of_ble_eq_true rfl, Nat.le_of_ble_eq_true rfl⟩ rfl (fun H locs hI => ?_)
        refine lv_if_ne (pc := 52) (tgt := 60) hx hb dX10_handed_52 (by decide) (fun c8 => ?_) (fun c8 => ?_)
        · have hf := q_in c8 hf
          refine lv_aload_n (pc := 60) hx hb dX10_handed_60 rfl (lv_at hl 1 rfl) ?_
          refine lv_aload_n (pc := 61) hx hb dX10_handed_61 rfl (lv_at hl 1 rfl) ?_
          refine lv_iload_n (pc := 62) hx hb dX10_handed_62 rfl (lv_at hl 0 rfl) ?_
          obtain ⟨t9, e9, hf⟩ := q_ob hf
          refine x_cVs (pc := 63) (st1 := [.int t9.1, .ref (h 0)]) (w1 := (mw G h z_thrown z_s z_kept z_isKept t5.1 t5.2.1 t5.2.2 z_troubles z_troubleSorts z_troubleNumbers z_asked t9.2 z_leasts z_isSeen z_classMany z_types z_typeCounts z_typeMany z_text z_signs z_at z_lacks z_clauses z_begun z_letters z_firsts z_seconds z_aside z_sorts z_sizes z_items)) X E hI (c_X10_otherHand l G h e9) kv_X10_201 hd_X10_otherHand ⟨rfl, rfl⟩ (by decide) 0 rfl rfl rfl rfl hl.1 rfl (Nat.le_of_ble_eq_true rfl) dX10_handed_63 ⟨Nat.le_of_ble_eq_true rfl, Nat.le_of_ble_eq_true rfl⟩ rfl (fun H locs hI => ?_)
          obtain ⟨t10, e10, hf⟩ := q_ob hf
          refine x_cVs (pc := 66) (st1 := [.int t10.1]) (w1 := (mw G h z_thrown z_s z_kept z_isKept t5.1 t5.2.1 t5.2.2 z_troubles z_troubleSorts z_troubleNumbers z_asked t10.2 z_leasts z_isSeen z_classMany z_types z_typeCounts z_typeMany z_text z_signs z_at z_lacks z_clauses z_begun z_letters z_firsts z_seconds z_aside z_sorts z_sizes z_items)) X E hI (c_X10_tellsPainting l G h e10) kv_X10_236 hd_X10_tellsPainting ⟨rfl, rfl⟩ (by decide) 0 rfl rfl rfl rfl hl.1 rfl (Nat.le_of_ble_eq_true rfl) dX10_handed_66 ⟨Nat.le_of_ble_eq_true rfl, Nat.le_of_ble_eq_true rfl⟩ rfl (fun H locs hI => ?_)
          obtain rfl := Option.some.inj hf
          exact x_iret X hI dX10_handed_69
        · have hf := q_ip c8 hf
          refine lv_bipush (pc := 55) (v := (-5)) hx hb dX10_handed_55 (by decide) ?_
          refine lv_goto (pc := 57) (tgt := 69) hx hb dX10_handed_57 (by decide) ?_
          obtain rfl := Option.some.inj hf
          exact x_iret X hI dX10_handed_69
      · have hf := q_ip c6 hf
        refine lv_aload_n (pc := 34) hx hb dX10_handed_34 rfl (lv_at hl 1 rfl) ?_
        refine lv_iload_n (pc := 35) hx hb dX10_handed_35 rfl (lv_at hl 0 rfl) ?_
        obtain ⟨t11, e11, hf⟩ := q_ob hf
        refine x_cVs (pc := 36) (st1 := [.int t11.1]) (w1 := (mw G h z_thrown z_s z_kept z_isKept t5.1 t5.2.1 t5.2.2 z_troubles z_troubleSorts z_troubleNumbers z_asked t11.2 z_leasts z_isSeen z_classMany z_types z_typeCounts z_typeMany z_text z_signs z_at z_lacks z_clauses z_begun z_letters z_firsts z_seconds z_aside z_sorts z_sizes z_items)) X E hI (c_X10_isHanded l G h e11) kv_X10_207 hd_X10_isHanded ⟨rfl, rfl⟩ (by decide) 0 rfl rfl rfl rfl hl.1 rfl (Nat.le_of_ble_eq_true rfl) dX10_handed_36 ⟨Nat.le_of_ble_eq_true rfl, Nat.le_of_ble_eq_true rfl⟩ rfl (fun H locs hI => ?_)
        refine lv_if_eq (pc := 39) (tgt := 46) hx hb dX10_handed_39 (by decide) (fun c12 => ?_) (fun c12 => ?_)
        · have hf := q_ip c12 hf
          refine lv_iconst (pc := 46) (v := 0) hx hb dX10_handed_46 (by decide) ?_
          obtain rfl := Option.some.inj hf
          exact x_iret X hI dX10_handed_47
        · have hf := q_in c12 hf
          refine lv_iconst (pc := 42) (v := 1) hx hb dX10_handed_42 (by decide) ?_
          refine lv_goto (pc := 43) (tgt := 47) hx hb dX10_handed_43 (by decide) ?_
          obtain rfl := Option.some.inj hf
          exact x_iret X hI dX10_handed_47
    · have hf := q_ip c4 hf
      refine lv_bipush (pc := 23) (v := (-2)) hx hb dX10_handed_23 (by decide) ?_
      obtain rfl := Option.some.inj hf
      exact x_iret X hI dX10_handed_25
  · have hf := q_ip c2 hf
    refine lv_iconst (pc := 10) (v := (-1)) hx hb dX10_handed_10 (by decide) ?_
    obtain rfl := Option.some.inj hf
    exact x_iret X hI dX10_handed_11

abbrev rm_Jxf58ca_isNaN_12338 : Room := { frames := 0, cells := 0, slots := 0, locals := 0 }
set_option maxHeartbeats 4000000 in
set_option maxRecDepth 100000 in
theorem c_Jxf58ca_isNaN_12338 (l : Launch) (G : GX)  {l0 : UInt32} {res : Int32} (hf : f_Jxf58ca_isNaN_12338 l0 = some res) : MX l yJxf58ca_isNaN_12338 cJxf58ca_isNaN_12338 1 (some .boolean) rm_Jxf58ca_isNaN_12338 G [] [.float l0] [] (some (.int res)) 0 0 := by
  refine MX.of (by decide +kernel) (Nat.le_of_ble_eq_true rfl) ?_
  intro p e s m below meth c A X E hI ls hl
  obtain ⟨hx, hb, hml, hown, hts, hr, hlk⟩ := id X
  have hl : lv_has ls 1 [(0, .float l0)] := hl
  unfold f_Jxf58ca_isNaN_12338 at hf
  refine lv_fload_n (pc := 0) hx hb dJxf58ca_isNaN_12338_0 rfl (lv_at hl 0 rfl) ?_
  refine lv_fload_n (pc := 1) hx hb dJxf58ca_isNaN_12338_1 rfl (lv_at hl 0 rfl) ?_
  refine lv_fcmp (pc := 2) hx hb dJxf58ca_isNaN_12338_2 ?_
  refine lv_if_eq (pc := 3) (tgt := 10) hx hb dJxf58ca_isNaN_12338_3 (by decide) (fun c1 => ?_) (fun c1 => ?_)
  · have hf := q_ip c1 hf
    refine lv_iconst (pc := 10) (v := 0) hx hb dJxf58ca_isNaN_12338_10 (by decide) ?_
    obtain rfl := Option.some.inj hf
    exact x_zret X hI (Or.inl rfl) dJxf58ca_isNaN_12338_11
  · have hf := q_in c1 hf
    refine lv_iconst (pc := 6) (v := 1) hx hb dJxf58ca_isNaN_12338_6 (by decide) ?_
    refine lv_goto (pc := 7) (tgt := 11) hx hb dJxf58ca_isNaN_12338_7 (by decide) ?_
    obtain rfl := Option.some.inj hf
    exact x_zret X hI (Or.inr rfl) dJxf58ca_isNaN_12338_11

abbrev rm_Jxf58ca_floatToIntBits_5c35a : Room := { frames := 1, cells := 0, slots := 0, locals := 24 }
set_option maxHeartbeats 4000000 in
set_option maxRecDepth 100000 in
theorem c_Jxf58ca_floatToIntBits_5c35a (l : Launch) (G : GX)  {l0 : UInt32} {res : Int32} (hf : f_Jxf58ca_floatToIntBits_5c35a l0 = some res) : MX l yJxf58ca_floatToIntBits_5c35a cJxf58ca_floatToIntBits_5c35a 1 (some .int) rm_Jxf58ca_floatToIntBits_5c35a G [] [.float l0] [] (some (.int res)) 0 0 := by
  refine MX.of (by decide +kernel) (Nat.le_of_ble_eq_true rfl) ?_
  intro p e s m below meth c A X E hI ls hl
  obtain ⟨hx, hb, hml, hown, hts, hr, hlk⟩ := id X
  have hl : lv_has ls 1 [(0, .float l0)] := hl
  unfold f_Jxf58ca_floatToIntBits_5c35a at hf
  refine lv_fload_n (pc := 0) hx hb dJxf58ca_floatToIntBits_5c35a_0 rfl (lv_at hl 0 rfl) ?_
  obtain ⟨t1, e1, hf⟩ := q_ob hf
  refine x_cSn (pc := 1) (st1 := [.int t1]) X E hI (c_Jxf58ca_isNaN_12338 l G e1) ks_Jxf58ca_59 hd_Jxf58ca_isNaN_12338 ⟨rfl, rfl⟩ (by decide) rfl hl.1 rfl (Nat.le_of_ble_eq_true rfl) dJxf58ca_floatToIntBits_5c35a_1 ⟨Nat.le_of_ble_eq_true rfl, Nat.le_of_ble_eq_true rfl⟩ rfl (fun H locs hI => ?_)
  refine lv_if_ne (pc := 4) (tgt := 12) hx hb dJxf58ca_floatToIntBits_5c35a_4 (by decide) (fun c2 => ?_) (fun c2 => ?_)
  · have hf := q_in c2 hf
    refine lv_ldc (pc := 12) (v := 2143289344) hx hb hown (hts _ tw_5_118) dJxf58ca_floatToIntBits_5c35a_12 ?_
    obtain rfl := Option.some.inj hf
    exact x_iret X hI dJxf58ca_floatToIntBits_5c35a_14
  · have hf := q_ip c2 hf
    refine lv_fload_n (pc := 7) hx hb dJxf58ca_floatToIntBits_5c35a_7 rfl (lv_at hl 0 rfl) ?_
    refine vn_f2i (pc := 8) hx hb (hml.trans hl.1.symm) hown (hts _ tw_5_115) (hts _ tw_5_117) (hts _ tw_5_116) (hts _ tw_1_14) (by decide) (Nat.le_of_ble_eq_true rfl) dJxf58ca_floatToIntBits_5c35a_8 ?_
    obtain rfl := Option.some.inj hf
    exact x_iret X hI dJxf58ca_floatToIntBits_5c35a_11

abbrev rm_X10_even : Room := { frames := 8, cells := 0, slots := 0, locals := 174 }
set_option maxHeartbeats 4000000 in
set_option maxRecDepth 100000 in
theorem c_X10_even (l : Launch) (G : GX) (h : Nat → Nat) {l1 : Int32} {z_s : Nat → Int32} {z_moveMany : Int32} {z_moves : Nat → Int32} {z_hands : Nat → Int32} {z_paint : Nat → Int32} {z_leasts : Nat → Int32} {z_isSeen : Nat → Int32} {z_classMany : Int32} {z_thrown : Int32} {z_kept : Nat → Int32} {z_isKept : Int32} {z_troubles : Int32} {z_troubleSorts : Nat → Int32} {z_troubleNumbers : Nat → Int32} {z_asked : Nat → Int32} {z_types : Nat → Int32} {z_typeCounts : Nat → Int32} {z_typeMany : Int32} {z_text : Nat → Int32} {z_signs : Int32} {z_at : Int32} {z_lacks : Int32} {z_clauses : Int32} {z_begun : Int32} {z_letters : Nat → Int32} {z_firsts : Nat → Int32} {z_seconds : Nat → Int32} {z_aside : Nat → Int32} {z_sorts : Nat → Int32} {z_sizes : Nat → Int32} {z_items : Nat → Int64} {res : Int32 × Int32 × (Nat → Int32) × (Nat → Int32) × (Nat → Int32) × (Nat → Int32) × (Nat → Int32) × Int32} (hf : f_X10_even l1 z_s z_moveMany z_moves z_hands z_paint z_leasts z_isSeen z_classMany = some res) : MX l yX10_even cX10_even 2 (some .int) rm_X10_even G (mw G h z_thrown z_s z_kept z_isKept z_moveMany z_moves z_hands z_troubles z_troubleSorts z_troubleNumbers z_asked z_paint z_leasts z_isSeen z_classMany z_types z_typeCounts z_typeMany z_text z_signs z_at z_lacks z_clauses z_begun z_letters z_firsts z_seconds z_aside z_sorts z_sizes z_items) [.ref (h 0), .int l1] (mw G h z_thrown z_s z_kept z_isKept res.2.1 res.2.2.1 res.2.2.2.1 z_troubles z_troubleSorts z_troubleNumbers z_asked res.2.2.2.2.1 res.2.2.2.2.2.1 res.2.2.2.2.2.2.1 res.2.2.2.2.2.2.2 z_types z_typeCounts z_typeMany z_text z_signs z_at z_lacks z_clauses z_begun z_letters z_firsts z_seconds z_aside z_sorts z_sizes z_items) (some (.int res.1)) 0 0 := by
  refine MX.of (plainFor_of_name (by decide)) (Nat.le_of_ble_eq_true rfl) ?_
  intro p e s m below meth c A X E hI ls hl
  obtain ⟨hx, hb, hml, hown, hts, hr, hlk⟩ := id X
  have hl : lv_has ls 2 [(0, .ref (h 0)), (1, .int l1)] := hl
  unfold f_X10_even at hf
  refine lv_iload_n (pc := 0) hx hb dX10_even_0 rfl (lv_at hl 1 rfl) ?_
  obtain ⟨t1, e1, hf⟩ := q_ob hf
  refine x_cSn (pc := 1) (st1 := [.int t1]) X E hI (c_X10_isBy l G e1) ks_X10_222 hd_X10_isBy ⟨rfl, rfl⟩ (by decide) rfl hl.1 rfl (Nat.le_of_ble_eq_true rfl) dX10_even_1 ⟨Nat.le_of_ble_eq_true rfl, Nat.le_of_ble_eq_true rfl⟩ rfl (fun H locs hI => ?_)
  refine lv_if_eq (pc := 4) (tgt := 25) hx hb dX10_even_4 (by decide) (fun c2 => ?_) (fun c2 => ?_)
  · have hf := q_ip c2 hf
    refine lv_iconst (pc := 25) (v := (-1)) hx hb dX10_even_25 (by decide) ?_
    obtain rfl := Option.some.inj hf
    exact x_iret X hI dX10_even_26
  · have hf := q_in c2 hf
    refine lv_aload_n (pc := 7) hx hb dX10_even_7 rfl (lv_at hl 0 rfl) ?_
    refine lv_iload_n (pc := 8) hx hb dX10_even_8 rfl (lv_at hl 1 rfl) ?_
    obtain ⟨t3, e3, hf⟩ := q_ob hf
    refine x_cVs (pc := 9) (st1 := [.int t3.1]) (w1 := (mw G h z_thrown z_s z_kept z_isKept t3.2.1 t3.2.2.1 t3.2.2.2.1 z_troubles z_troubleSorts z_troubleNumbers z_asked t3.2.2.2.2.1 t3.2.2.2.2.2.1 t3.2.2.2.2.2.2.1 t3.2.2.2.2.2.2.2 z_types z_typeCounts z_typeMany z_text z_signs z_at z_lacks z_clauses z_begun z_letters z_firsts z_seconds z_aside z_sorts z_sizes z_items)) X E hI (c_X10_classesBy l G h e3) kv_X10_210 hd_X10_classesBy ⟨rfl, rfl⟩ (by decide) 0 rfl rfl rfl rfl hl.1 rfl (Nat.le_of_ble_eq_true rfl) dX10_even_9 ⟨Nat.le_of_ble_eq_true rfl, Nat.le_of_ble_eq_true rfl⟩ rfl (fun H locs hI => ?_)
    refine lv_i2f (pc := 12) hx hb dX10_even_12 ?_
    refine lv_aload_n (pc := 13) hx hb dX10_even_13 rfl (lv_at hl 0 rfl) ?_
    obtain ⟨t4, e4, hf⟩ := q_ob hf
    refine x_cVs (pc := 14) (st1 := [.int t4, .float (FP.i2f t3.1)]) (w1 := (mw G h z_thrown z_s z_kept z_isKept t3.2.1 t3.2.2.1 t3.2.2.2.1 z_troubles z_troubleSorts z_troubleNumbers z_asked t3.2.2.2.2.1 t3.2.2.2.2.2.1 t3.2.2.2.2.2.2.1 t3.2.2.2.2.2.2.2 z_types z_typeCounts z_typeMany z_text z_signs z_at z_lacks z_clauses z_begun z_letters z_firsts z_seconds z_aside z_sorts z_sizes z_items)) X E hI (c_X10_paintings l G h e4) kv_X10_186 hd_X10_paintings ⟨rfl, rfl⟩ (by decide) 0 rfl rfl rfl rfl hl.1 rfl (Nat.le_of_ble_eq_true rfl) dX10_even_14 ⟨Nat.le_of_ble_eq_true rfl, Nat.le_of_ble_eq_true rfl⟩ rfl (fun H locs hI => ?_)
    refine lv_i2f (pc := 17) hx hb dX10_even_17 ?_
    obtain ⟨t5, e5, hf⟩ := q_ob hf
    refine x_fdiv (pc := 18) X e5 dX10_even_18 ?_
    obtain ⟨t6, e6, hf⟩ := q_ob hf
    refine x_cSn (pc := 19) (st1 := [.int t6]) X E hI (c_Jxf58ca_floatToIntBits_5c35a l G e6) ks_X10_252 hd_Jxf58ca_floatToIntBits_5c35a ⟨rfl, rfl⟩ (by decide) rfl hl.1 rfl (Nat.le_of_ble_eq_true rfl) dX10_even_19 ⟨Nat.le_of_ble_eq_true rfl, Nat.le_of_ble_eq_true rfl⟩ rfl (fun H locs hI => ?_)
    refine lv_goto (pc := 22) (tgt := 26) hx hb dX10_even_22 (by decide) ?_
    obtain rfl := Option.some.inj hf
    exact x_iret X hI dX10_even_26

abbrev rm_Jxe99ae_isNaN_b9ae7 : Room := { frames := 0, cells := 0, slots := 0, locals := 0 }
set_option maxHeartbeats 4000000 in
set_option maxRecDepth 100000 in
theorem c_Jxe99ae_isNaN_b9ae7 (l : Launch) (G : GX)  {l0 : UInt64} {res : Int32} (hf : f_Jxe99ae_isNaN_b9ae7 l0 = some res) : MX l yJxe99ae_isNaN_b9ae7 cJxe99ae_isNaN_b9ae7 2 (some .boolean) rm_Jxe99ae_isNaN_b9ae7 G [] [.double l0] [] (some (.int res)) 0 0 := by
  refine MX.of (by decide +kernel) (Nat.le_of_ble_eq_true rfl) ?_
  intro p e s m below meth c A X E hI ls hl
  obtain ⟨hx, hb, hml, hown, hts, hr, hlk⟩ := id X
  have hl : lv_has ls 2 [(0, .double l0)] := hl
  unfold f_Jxe99ae_isNaN_b9ae7 at hf
  refine lv_dload_n (pc := 0) hx hb dJxe99ae_isNaN_b9ae7_0 rfl (lv_at hl 0 rfl) ?_
  refine lv_dload_n (pc := 1) hx hb dJxe99ae_isNaN_b9ae7_1 rfl (lv_at hl 0 rfl) ?_
  refine lv_dcmp (pc := 2) hx hb dJxe99ae_isNaN_b9ae7_2 ?_
  refine lv_if_eq (pc := 3) (tgt := 10) hx hb dJxe99ae_isNaN_b9ae7_3 (by decide) (fun c1 => ?_) (fun c1 => ?_)
  · have hf := q_ip c1 hf
    refine lv_iconst (pc := 10) (v := 0) hx hb dJxe99ae_isNaN_b9ae7_10 (by decide) ?_
    obtain rfl := Option.some.inj hf
    exact x_zret X hI (Or.inl rfl) dJxe99ae_isNaN_b9ae7_11
  · have hf := q_in c1 hf
    refine lv_iconst (pc := 6) (v := 1) hx hb dJxe99ae_isNaN_b9ae7_6 (by decide) ?_
    refine lv_goto (pc := 7) (tgt := 11) hx hb dJxe99ae_isNaN_b9ae7_7 (by decide) ?_
    obtain rfl := Option.some.inj hf
    exact x_zret X hI (Or.inr rfl) dJxe99ae_isNaN_b9ae7_11

abbrev rm_Jxe99ae_doubleToLongBits_ccdee : Room := { frames := 1, cells := 0, slots := 0, locals := 24 }
set_option maxHeartbeats 4000000 in
set_option maxRecDepth 100000 in
theorem c_Jxe99ae_doubleToLongBits_ccdee (l : Launch) (G : GX)  {l0 : UInt64} {res : Int64} (hf : f_Jxe99ae_doubleToLongBits_ccdee l0 = some res) : MX l yJxe99ae_doubleToLongBits_ccdee cJxe99ae_doubleToLongBits_ccdee 2 (some .long) rm_Jxe99ae_doubleToLongBits_ccdee G [] [.double l0] [] (some (.long res)) 0 0 := by
  refine MX.of (by decide +kernel) (Nat.le_of_ble_eq_true rfl) ?_
  intro p e s m below meth c A X E hI ls hl
  obtain ⟨hx, hb, hml, hown, hts, hr, hlk⟩ := id X
  have hl : lv_has ls 2 [(0, .double l0)] := hl
  unfold f_Jxe99ae_doubleToLongBits_ccdee at hf
  refine lv_dload_n (pc := 0) hx hb dJxe99ae_doubleToLongBits_ccdee_0 rfl (lv_at hl 0 rfl) ?_
  obtain ⟨t1, e1, hf⟩ := q_ob hf
  refine x_cSn (pc := 1) (st1 := [.int t1]) X E hI (c_Jxe99ae_isNaN_b9ae7 l G e1) ks_Jxe99ae_122 hd_Jxe99ae_isNaN_b9ae7 ⟨rfl, rfl⟩ (by decide) rfl hl.1 rfl (Nat.le_of_ble_eq_true rfl) dJxe99ae_doubleToLongBits_ccdee_1 ⟨Nat.le_of_ble_eq_true rfl, Nat.le_of_ble_eq_true rfl⟩ rfl (fun H locs hI => ?_)
  refine lv_if_ne (pc := 4) (tgt := 12) hx hb dJxe99ae_doubleToLongBits_ccdee_4 (by decide) (fun c2 => ?_) (fun c2 => ?_)
  · have hf := q_in c2 hf
    refine lv_ldc2 (pc := 12) (v := 9221120237041090560) hx hb hown (hts _ tw_5_132) dJxe99ae_doubleToLongBits_ccdee_12 ?_
    obtain rfl := Option.some.inj hf
    exact x_lret X hI dJxe99ae_doubleToLongBits_ccdee_15
  · have hf := q_ip c2 hf
    refine lv_dload_n (pc := 7) hx hb dJxe99ae_doubleToLongBits_ccdee_7 rfl (lv_at hl 0 rfl) ?_
    refine vn_d2l (pc := 8) hx hb (hml.trans hl.1.symm) hown (hts _ tw_5_129) (hts _ tw_5_131) (hts _ tw_5_130) (hts _ tw_1_15) (by decide) (Nat.le_of_ble_eq_true rfl) dJxe99ae_doubleToLongBits_ccdee_8 ?_
    obtain rfl := Option.some.inj hf
    exact x_lret X hI dJxe99ae_doubleToLongBits_ccdee_11

abbrev rm_X10_likely : Room := { frames := 6, cells := 0, slots := 0, locals := 132 }
set_option maxHeartbeats 4000000 in
set_option maxRecDepth 100000 in
theorem c_X10_likely (l : Launch) (G : GX) (h : Nat → Nat) {l1 : Int32} {l2 : Int32} {z_s : Nat → Int32} {z_moveMany : Int32} {z_moves : Nat → Int32} {z_hands : Nat → Int32} {z_paint : Nat → Int32} {z_thrown : Int32} {z_kept : Nat → Int32} {z_isKept : Int32} {z_troubles : Int32} {z_troubleSorts : Nat → Int32} {z_troubleNumbers : Nat → Int32} {z_asked : Nat → Int32} {z_leasts : Nat → Int32} {z_isSeen : Nat → Int32} {z_classMany : Int32} {z_types : Nat → Int32} {z_typeCounts : Nat → Int32} {z_typeMany : Int32} {z_text : Nat → Int32} {z_signs : Int32} {z_at : Int32} {z_lacks : Int32} {z_clauses : Int32} {z_begun : Int32} {z_letters : Nat → Int32} {z_firsts : Nat → Int32} {z_seconds : Nat → Int32} {z_aside : Nat → Int32} {z_sorts : Nat → Int32} {z_sizes : Nat → Int32} {z_items : Nat → Int64} {res : Int64 × Int32 × (Nat → Int32) × (Nat → Int32) × (Nat → Int32)} (hf : f_X10_likely l1 l2 z_s z_moveMany z_moves z_hands z_paint = some res) : MX l yX10_likely cX10_likely 4 (some .long) rm_X10_likely G (mw G h z_thrown z_s z_kept z_isKept z_moveMany z_moves z_hands z_troubles z_troubleSorts z_troubleNumbers z_asked z_paint z_leasts z_isSeen z_classMany z_types z_typeCounts z_typeMany z_text z_signs z_at z_lacks z_clauses z_begun z_letters z_firsts z_seconds z_aside z_sorts z_sizes z_items) [.ref (h 0), .int l1, .int l2] (mw G h z_thrown z_s z_kept z_isKept res.2.1 res.2.2.1 res.2.2.2.1 z_troubles z_troubleSorts z_troubleNumbers z_asked res.2.2.2.2 z_leasts z_isSeen z_classMany z_types z_typeCounts z_typeMany z_text z_signs z_at z_lacks z_clauses z_begun z_letters z_firsts z_seconds z_aside z_sorts z_sizes z_items) (some (.long res.1)) 0 0 := by
  refine MX.of (plainFor_of_name (by decide)) (Nat.le_of_ble_eq_true rfl) ?_
  intro p e s m below meth c A X E hI ls hl
  obtain ⟨hx, hb, hml, hown, hts, hr, hlk⟩ := id X
  have hl : lv_has ls 4 [(0, .ref (h 0)), (1, .int l1), (2, .int l2)] := hl
  unfold f_X10_likely at hf
  refine lv_aload_n (pc := 0) hx hb dX10_likely_0 rfl (lv_at hl 0 rfl) ?_
  refine lv_iload_n (pc := 1) hx hb dX10_likely_1 rfl (lv_at hl 2 rfl) ?_
  obtain ⟨t1, e1, hf⟩ := q_ob hf
  refine x_cVs (pc := 2) (st1 := [.int t1]) (w1 := (mw G h z_thrown z_s z_kept z_isKept z_moveMany z_moves z_hands z_troubles z_troubleSorts z_troubleNumbers z_asked z_paint z_leasts z_isSeen z_classMany z_types z_typeCounts z_typeMany z_text z_signs z_at z_lacks z_clauses z_begun z_letters z_firsts z_seconds z_aside z_sorts z_sizes z_items)) X E hI (c_X10_indexOf l G h e1) kv_X10_233 hd_X10_indexOf ⟨rfl, rfl⟩ (by decide) 0 rfl rfl rfl rfl hl.1 rfl (Nat.le_of_ble_eq_true rfl) dX10_likely_2 ⟨Nat.le_of_ble_eq_true rfl, Nat.le_of_ble_eq_true rfl⟩ rfl (fun H locs hI => ?_)
  refine lv_istore_n (pc := 5) (lv' := [(3, .int t1), (0, .ref (h 0)), (1, .int l1), (2, .int l2)]) hx hb dX10_likely_5 rfl hl (by decide) rfl (fun ls hl => ?_)
  refine lv_iload_n (pc := 6) hx hb dX10_likely_6 rfl (lv_at hl 2 rfl) ?_
  obtain ⟨t2, e2, hf⟩ := q_ob hf
  refine x_cSn (pc := 7) (st1 := [.int t2]) X E hI (c_X10_isBy l G e2) ks_X10_222 hd_X10_isBy ⟨rfl, rfl⟩ (by decide) rfl hl.1 rfl (Nat.le_of_ble_eq_true rfl) dX10_likely_7 ⟨Nat.le_of_ble_eq_true rfl, Nat.le_of_ble_eq_true rfl⟩ rfl (fun H locs hI => ?_)
  refine lv_if_eq (pc := 10) (tgt := 18) hx hb dX10_likely_10 (by decide) (fun c3 => ?_) (fun c3 => ?_)
  · have hf := q_ip c3 hf
    refine lv_ldc2 (pc := 18) (v := (-9223372036854775808)) hx hb hown (hts _ tw_5_47) dX10_likely_18 ?_
    obtain rfl := Option.some.inj hf
    exact x_lret X hI dX10_likely_21
  · have hf := q_in c3 hf
    refine lv_iload_n (pc := 13) hx hb dX10_likely_13 rfl (lv_at hl 0 rfl) ?_
    refine lv_iconst (pc := 14) (v := (-1)) hx hb dX10_likely_14 (by decide) ?_
    refine lv_icmp_ne (pc := 15) (tgt := 22) hx hb dX10_likely_15 (by decide) (fun c4 => ?_) (fun c4 => ?_)
    · have hf := q_in c4 hf
      refine lv_aload_n (pc := 22) hx hb dX10_likely_22 rfl (lv_at hl 1 rfl) ?_
      obtain ⟨t5, e5, hf⟩ := q_ob hf
      refine x_cVs (pc := 23) (st1 := []) (w1 := (mw G h z_thrown z_s z_kept z_isKept t5.1 t5.2.1 t5.2.2 z_troubles z_troubleSorts z_troubleNumbers z_asked z_paint z_leasts z_isSeen z_classMany z_types z_typeCounts z_typeMany z_text z_signs z_at z_lacks z_clauses z_begun z_letters z_firsts z_seconds z_aside z_sorts z_sizes z_items)) X E hI (c_X10_moves_ l G h e5) kv_X10_163 hd_X10_moves_ ⟨rfl, rfl⟩ (by decide) 0 rfl rfl rfl rfl hl.1 rfl (Nat.le_of_ble_eq_true rfl) dX10_likely_23 ⟨Nat.le_of_ble_eq_true rfl, Nat.le_of_ble_eq_true rfl⟩ rfl (fun H locs hI => ?_)
      refine lv_aload_n (pc := 26) hx hb dX10_likely_26 rfl (lv_at hl 1 rfl) ?_
      refine lv_iload_n (pc := 27) hx hb dX10_likely_27 rfl (lv_at hl 2 rfl) ?_
      refine lv_iload_n (pc := 28) hx hb dX10_likely_28 rfl (lv_at hl 0 rfl) ?_
      obtain ⟨t6, e6, hf⟩ := q_ob hf
      refine x_cVs (pc := 29) (st1 := [.int t6.1]) (w1 := (mw G h z_thrown z_s z_kept z_isKept t5.1 t5.2.1 t5.2.2 z_troubles z_troubleSorts z_troubleNumbers z_asked t6.2 z_leasts z_isSeen z_classMany z_types z_typeCounts z_typeMany z_text z_signs z_at z_lacks z_clauses z_begun z_letters z_firsts z_seconds z_aside z_sorts z_sizes z_items)) X E hI (c_X10_sizeOf l G h e6) kv_X10_239 hd_X10_sizeOf ⟨rfl, rfl⟩ (by decide) 0 rfl rfl rfl rfl hl.1 rfl (Nat.le_of_ble_eq_true rfl) dX10_likely_29 ⟨Nat.le_of_ble_eq_true rfl, Nat.le_of_ble_eq_true rfl⟩ rfl (fun H locs hI => ?_)
      refine lv_i2d (pc := 32) hx hb dX10_likely_32 ?_
      refine lv_aload_n (pc := 33) hx hb dX10_likely_33 rfl (lv_at hl 1 rfl) ?_
      obtain ⟨t7, e7, hf⟩ := q_ob hf
      refine x_cVs (pc := 34) (st1 := [.int t7, .double (FP.i2d t6.1)]) (w1 := (mw G h z_thrown z_s z_kept z_isKept t5.1 t5.2.1 t5.2.2 z_troubles z_troubleSorts z_troubleNumbers z_asked t6.2 z_leasts z_isSeen z_classMany z_types z_typeCounts z_typeMany z_text z_signs z_at z_lacks z_clauses z_begun z_letters z_firsts z_seconds z_aside z_sorts z_sizes z_items)) X E hI (c_X10_paintings l G h e7) kv_X10_186 hd_X10_paintings ⟨rfl, rfl⟩ (by decide) 0 rfl rfl rfl rfl hl.1 rfl (Nat.le_of_ble_eq_true rfl) dX10_likely_34 ⟨Nat.le_of_ble_eq_true rfl, Nat.le_of_ble_eq_true rfl⟩ rfl (fun H locs hI => ?_)
      refine lv_i2d (pc := 37) hx hb dX10_likely_37 ?_
      obtain ⟨t8, e8, hf⟩ := q_ob hf
      refine x_ddiv (pc := 38) X e8 dX10_likely_38 ?_
      obtain ⟨t9, e9, hf⟩ := q_ob hf
      refine x_cSn (pc := 39) (st1 := [.long t9]) X E hI (c_Jxe99ae_doubleToLongBits_ccdee l G e9) ks_X10_258 hd_Jxe99ae_doubleToLongBits_ccdee ⟨rfl, rfl⟩ (by decide) rfl hl.1 rfl (Nat.le_of_ble_eq_true rfl) dX10_likely_39 ⟨Nat.le_of_ble_eq_true rfl, Nat.le_of_ble_eq_true rfl⟩ rfl (fun H locs hI => ?_)
      obtain rfl := Option.some.inj hf
      exact x_lret X hI dX10_likely_42
    · have hf := q_ip c4 hf
      refine lv_ldc2 (pc := 18) (v := (-9223372036854775808)) hx hb hown (hts _ tw_5_47) dX10_likely_18 ?_
      obtain rfl := Option.some.inj hf
      exact x_lret X hI dX10_likely_21

abbrev rm_X10_mean : Room := { frames := 2, cells := 0, slots := 0, locals := 46 }
set_option maxHeartbeats 4000000 in
set_option maxRecDepth 100000 in
theorem c_X10_mean (l : Launch) (G : GX) (h : Nat → Nat) {l1 : Int32} {l2 : Int32} {z_s : Nat → Int32} {z_paint : Nat → Int32} {z_thrown : Int32} {z_kept : Nat → Int32} {z_isKept : Int32} {z_moveMany : Int32} {z_moves : Nat → Int32} {z_hands : Nat → Int32} {z_troubles : Int32} {z_troubleSorts : Nat → Int32} {z_troubleNumbers : Nat → Int32} {z_asked : Nat → Int32} {z_leasts : Nat → Int32} {z_isSeen : Nat → Int32} {z_classMany : Int32} {z_types : Nat → Int32} {z_typeCounts : Nat → Int32} {z_typeMany : Int32} {z_text : Nat → Int32} {z_signs : Int32} {z_at : Int32} {z_lacks : Int32} {z_clauses : Int32} {z_begun : Int32} {z_letters : Nat → Int32} {z_firsts : Nat → Int32} {z_seconds : Nat → Int32} {z_aside : Nat → Int32} {z_sorts : Nat → Int32} {z_sizes : Nat → Int32} {z_items : Nat → Int64} {res : Int32 × (Nat → Int32)} (hf : f_X10_mean l1 l2 z_s z_paint = some res) : MX l yX10_mean cX10_mean 5 (some .int) rm_X10_mean G (mw G h z_thrown z_s z_kept z_isKept z_moveMany z_moves z_hands z_troubles z_troubleSorts z_troubleNumbers z_asked z_paint z_leasts z_isSeen z_classMany z_types z_typeCounts z_typeMany z_text z_signs z_at z_lacks z_clauses z_begun z_letters z_firsts z_seconds z_aside z_sorts z_sizes z_items) [.ref (h 0), .int l1, .int l2] (mw G h z_thrown z_s z_kept z_isKept z_moveMany z_moves z_hands z_troubles z_troubleSorts z_troubleNumbers z_asked res.2 z_leasts z_isSeen z_classMany z_types z_typeCounts z_typeMany z_text z_signs z_at z_lacks z_clauses z_begun z_letters z_firsts z_seconds z_aside z_sorts z_sizes z_items) (some (.int res.1)) 0 0 := by
  refine MX.of (plainFor_of_name (by decide)) (Nat.le_of_ble_eq_true rfl) ?_
  intro p e s m below meth c A X E hI ls hl
  obtain ⟨hx, hb, hml, hown, hts, hr, hlk⟩ := id X
  have hl : lv_has ls 5 [(0, .ref (h 0)), (1, .int l1), (2, .int l2)] := hl
  unfold f_X10_mean at hf
  refine lv_aload_n (pc := 0) hx hb dX10_mean_0 rfl (lv_at hl 0 rfl) ?_
  refine lv_iload_n (pc := 1) hx hb dX10_mean_1 rfl (lv_at hl 1 rfl) ?_
  obtain ⟨t1, e1, hf⟩ := q_ob hf
  refine x_cVs (pc := 2) (st1 := [.int t1]) (w1 := (mw G h z_thrown z_s z_kept z_isKept z_moveMany z_moves z_hands z_troubles z_troubleSorts z_troubleNumbers z_asked z_paint z_leasts z_isSeen z_classMany z_types z_typeCounts z_typeMany z_text z_signs z_at z_lacks z_clauses z_begun z_letters z_firsts z_seconds z_aside z_sorts z_sizes z_items)) X E hI (c_X10_indexOf l G h e1) kv_X10_233 hd_X10_indexOf ⟨rfl, rfl⟩ (by decide) 0 rfl rfl rfl rfl hl.1 rfl (Nat.le_of_ble_eq_true rfl) dX10_mean_2 ⟨Nat.le_of_ble_eq_true rfl, Nat.le_of_ble_eq_true rfl⟩ rfl (fun H locs hI => ?_)
  refine lv_istore_n (pc := 5) (lv' := [(3, .int t1), (0, .ref (h 0)), (1, .int l1), (2, .int l2)]) hx hb dX10_mean_5 rfl hl (by decide) rfl (fun ls hl => ?_)
  refine lv_iload_n (pc := 6) hx hb dX10_mean_6 rfl (lv_at hl 0 rfl) ?_
  refine lv_iconst (pc := 7) (v := (-1)) hx hb dX10_mean_7 (by decide) ?_
  refine lv_icmp_ne (pc := 8) (tgt := 14) hx hb dX10_mean_8 (by decide) (fun c2 => ?_) (fun c2 => ?_)
  · have hf := q_in c2 hf
    refine lv_aload_n (pc := 14) hx hb dX10_mean_14 rfl (lv_at hl 1 rfl) ?_
    refine lv_iload_n (pc := 15) hx hb dX10_mean_15 rfl (lv_at hl 0 rfl) ?_
    obtain ⟨t3, e3, hf⟩ := q_ob hf
    refine x_cVs (pc := 16) (st1 := [.int t3.1]) (w1 := (mw G h z_thrown z_s z_kept z_isKept z_moveMany z_moves z_hands z_troubles z_troubleSorts z_troubleNumbers z_asked t3.2 z_leasts z_isSeen z_classMany z_types z_typeCounts z_typeMany z_text z_signs z_at z_lacks z_clauses z_begun z_letters z_firsts z_seconds z_aside z_sorts z_sizes z_items)) X E hI (c_X10_heavyOf l G h e3) kv_X10_242 hd_X10_heavyOf ⟨rfl, rfl⟩ (by decide) 0 rfl rfl rfl rfl hl.1 rfl (Nat.le_of_ble_eq_true rfl) dX10_mean_16 ⟨Nat.le_of_ble_eq_true rfl, Nat.le_of_ble_eq_true rfl⟩ rfl (fun H locs hI => ?_)
    refine lv_i2f (pc := 19) hx hb dX10_mean_19 ?_
    refine lv_aload_n (pc := 20) hx hb dX10_mean_20 rfl (lv_at hl 1 rfl) ?_
    refine x_get (pc := 21) X E hI inX10 0 rfl rfl 1 (by decide) tw_3_230 rfl dX10_mean_21 ?_
    refine lv_iconst (pc := 24) (v := 0) hx hb dX10_mean_24 (by decide) ?_
    obtain ⟨t4, e4, hf⟩ := q_ob hf
    refine x_iald (pc := 25) X E hI 1 rfl e4 dX10_mean_25 ?_
    refine lv_i2f (pc := 26) hx hb dX10_mean_26 ?_
    obtain ⟨t5, e5, hf⟩ := q_ob hf
    refine x_fdiv (pc := 27) X e5 dX10_mean_27 ?_
    refine lv_fstore (pc := 28) (lv' := [(4, .float t5), (3, .int t1), (0, .ref (h 0)), (1, .int l1), (2, .int l2)]) hx hb dX10_mean_28 hl (by decide) rfl (fun ls hl => ?_)
    refine lv_iload_n (pc := 30) hx hb dX10_mean_30 rfl (lv_at hl 4 rfl) ?_
    refine lv_if_ne (pc := 31) (tgt := 42) hx hb dX10_mean_31 (by decide) (fun c6 => ?_) (fun c6 => ?_)
    · have hf := q_in c6 hf
      refine lv_iload_n (pc := 42) hx hb dX10_mean_42 rfl (lv_at hl 4 rfl) ?_
      refine lv_iconst (pc := 43) (v := 1) hx hb dX10_mean_43 (by decide) ?_
      refine lv_icmp_ne (pc := 44) (tgt := 57) hx hb dX10_mean_44 (by decide) (fun c7 => ?_) (fun c7 => ?_)
      · have hf := q_in c7 hf
        refine lv_iconst (pc := 57) (v := (-1)) hx hb dX10_mean_57 (by decide) ?_
        obtain rfl := Option.some.inj hf
        exact x_iret X hI dX10_mean_58
      · have hf := q_ip c7 hf
        refine lv_fload (pc := 47) hx hb dX10_mean_47 (lv_at hl 0 rfl) ?_
        refine q_ldcwf (pc := 49) (v := 1056964608) hx hb hown (hts _ tw_5_137) dX10_mean_49 ?_
        obtain ⟨t8, e8, hf⟩ := q_ob hf
        refine x_fadd (pc := 52) X e8 dX10_mean_52 ?_
        refine lv_f2i (pc := 53) hx hb dX10_mean_53 ?_
        refine lv_goto (pc := 54) (tgt := 58) hx hb dX10_mean_54 (by decide) ?_
        obtain rfl := Option.some.inj hf
        exact x_iret X hI dX10_mean_58
    · have hf := q_ip c6 hf
      refine lv_fload (pc := 34) hx hb dX10_mean_34 (lv_at hl 0 rfl) ?_
      obtain ⟨t9, e9, hf⟩ := q_ob hf
      refine x_cSn (pc := 36) (st1 := [.int t9]) X E hI (c_Jxf58ca_floatToIntBits_5c35a l G e9) ks_X10_252 hd_Jxf58ca_floatToIntBits_5c35a ⟨rfl, rfl⟩ (by decide) rfl hl.1 rfl (Nat.le_of_ble_eq_true rfl) dX10_mean_36 ⟨Nat.le_of_ble_eq_true rfl, Nat.le_of_ble_eq_true rfl⟩ rfl (fun H locs hI => ?_)
      refine lv_goto (pc := 39) (tgt := 58) hx hb dX10_mean_39 (by decide) ?_
      obtain rfl := Option.some.inj hf
      exact x_iret X hI dX10_mean_58
  · have hf := q_ip c2 hf
    refine lv_bipush (pc := 11) (v := (-2)) hx hb dX10_mean_11 (by decide) ?_
    obtain rfl := Option.some.inj hf
    exact x_iret X hI dX10_mean_13

