abbrev rm_X10_spread : Room := { frames := 2, cells := 0, slots := 0, locals := 46 }
set_option maxHeartbeats 4000000 in
set_option maxRecDepth 100000 in
theorem k_X10_spread_L47 {p : Program} {l : Launch} {e : Env} {s : State} {m : MethodId} {args : Array Value} {below : List Frame} {meth : Method} {c : Code} {A : Nat → Prop} {G : GX} {h : Nat → Nat} {l2 : Int32} {l4 : UInt64} {z_thrown : Int32} {z_s : Nat → Int32} {z_kept : Nat → Int32} {z_isKept : Int32} {z_moveMany : Int32} {z_moves : Nat → Int32} {z_hands : Nat → Int32} {z_troubles : Int32} {z_troubleSorts : Nat → Int32} {z_troubleNumbers : Nat → Int32} {z_asked : Nat → Int32} {z_paint : Nat → Int32} {z_leasts : Nat → Int32} {z_isSeen : Nat → Int32} {z_classMany : Int32} {z_types : Nat → Int32} {z_typeCounts : Nat → Int32} {z_typeMany : Int32} {z_text : Nat → Int32} {z_signs : Int32} {z_at : Int32} {z_lacks : Int32} {z_clauses : Int32} {z_begun : Int32} {z_letters : Nat → Int32} {z_firsts : Nat → Int32} {z_seconds : Nat → Int32} {z_aside : Nat → Int32} {z_sorts : Nat → Int32} {z_sizes : Nat → Int32} {z_items : Nat → Int64} {K : UInt64 → Int32 → Option (Int64 × (Nat → Int32))} {res : Int64 × (Nat → Int32)} (X : CX RX10 cX10_spread 11 (some .long) p s m args meth c) (E : EX G A s)
    (hK : ∀ (l6 : UInt64) (l8 : Int32) (H : Heap) (locs : List Loc) (ls : Array Slot), IN A G (mw G h z_thrown z_s z_kept z_isKept z_moveMany z_moves z_hands z_troubles z_troubleSorts z_troubleNumbers z_asked z_paint z_leasts z_isSeen z_classMany z_types z_typeCounts z_typeMany z_text z_signs z_at z_lacks z_clauses z_begun z_letters z_firsts z_seconds z_aside z_sorts z_sizes z_items) s H locs → lv_has ls 11 [(0, .ref (h 0)), (2, .int l2), (4, .double l4), (6, .double l6), (8, .int l8)] → K l6 l8 = some res → W p l e rm_X10_spread s m args below meth c H locs 0 0 (MQ below (QX G A (mw G h z_thrown z_s z_kept z_isKept z_moveMany z_moves z_hands z_troubles z_troubleSorts z_troubleNumbers z_asked res.2 z_leasts z_isSeen z_classMany z_types z_typeCounts z_typeMany z_text z_signs z_at z_lacks z_clauses z_begun z_letters z_firsts z_seconds z_aside z_sorts z_sizes z_items) (some (.long res.1))) args s 0 0 A) (F0 m 94 ls [])) :
    ∀ {k : Nat} {l6 : UInt64} {l8 : Int32} {H : Heap} {locs : List Loc} {ls : Array Slot}, IN A G (mw G h z_thrown z_s z_kept z_isKept z_moveMany z_moves z_hands z_troubles z_troubleSorts z_troubleNumbers z_asked z_paint z_leasts z_isSeen z_classMany z_types z_typeCounts z_typeMany z_text z_signs z_at z_lacks z_clauses z_begun z_letters z_firsts z_seconds z_aside z_sorts z_sizes z_items) s H locs → lv_has ls 11 [(0, .ref (h 0)), (2, .int l2), (4, .double l4), (6, .double l6), (8, .int l8)] → f_X10_spread_L47 l2 l4 z_s z_paint K k l6 l8 = some res → W p l e rm_X10_spread s m args below meth c H locs 0 0 (MQ below (QX G A (mw G h z_thrown z_s z_kept z_isKept z_moveMany z_moves z_hands z_troubles z_troubleSorts z_troubleNumbers z_asked res.2 z_leasts z_isSeen z_classMany z_types z_typeCounts z_typeMany z_text z_signs z_at z_lacks z_clauses z_begun z_letters z_firsts z_seconds z_aside z_sorts z_sizes z_items) (some (.long res.1))) args s 0 0 A) (F0 m 47 ls []) := by
  obtain ⟨hx, hb, hml, hown, hts, hr, hlk⟩ := id X
  intro k
  induction k with
  | zero => intro l6 l8 H locs ls hI hl hf; exact nomatch (show none = some res from hf)
  | succ k ih =>
    intro l6 l8 H locs ls hI hl hf
    rw [f_X10_spread_L47] at hf
    refine lv_iload (pc := 47) hx hb dX10_spread_47 (lv_at hl 4 rfl) ?_
    refine lv_aload_n (pc := 49) hx hb dX10_spread_49 rfl (lv_at hl 0 rfl) ?_
    refine x_get (pc := 50) X E hI inX10 0 rfl rfl 1 (by decide) tw_3_230 rfl dX10_spread_50 ?_
    refine lv_iconst (pc := 53) (v := 0) hx hb dX10_spread_53 (by decide) ?_
    obtain ⟨t1, e1, hf⟩ := q_ob hf
    refine x_iald (pc := 54) X E hI 1 rfl e1 dX10_spread_54 ?_
    refine lv_icmp_ge (pc := 55) (tgt := 94) hx hb dX10_spread_55 (by decide) (fun c2 => ?_) (fun c2 => ?_)
    · have hf := q_ip c2 hf
      exact hK _ _ _ _ _ hI (lv_sub hl [0, 1, 2, 3, 4] rfl) hf
    · have hf := q_in c2 hf
      refine lv_aload_n (pc := 58) hx hb dX10_spread_58 rfl (lv_at hl 0 rfl) ?_
      refine x_get (pc := 59) X E hI inX10 0 rfl rfl 1 (by decide) tw_3_230 rfl dX10_spread_59 ?_
      refine lv_iconst (pc := 62) (v := 5) hx hb dX10_spread_62 (by decide) ?_
      refine lv_aload_n (pc := 63) hx hb dX10_spread_63 rfl (lv_at hl 0 rfl) ?_
      refine x_get (pc := 64) X E hI inX10 0 rfl rfl 11 (by decide) tw_4_0 rfl dX10_spread_64 ?_
      refine lv_iload (pc := 67) hx hb dX10_spread_67 (lv_at hl 4 rfl) ?_
      obtain ⟨t3, e3, hf⟩ := q_ob hf
      refine x_iald (pc := 69) X E hI 8 rfl e3 dX10_spread_69 ?_
      refine lv_iadd (pc := 70) hx hb dX10_spread_70 ?_
      obtain ⟨t4, e4, hf⟩ := q_ob hf
      refine x_iald (pc := 71) X E hI 1 rfl e4 dX10_spread_71 ?_
      refine lv_i2d (pc := 72) hx hb dX10_spread_72 ?_
      refine lv_dload (pc := 73) hx hb dX10_spread_73 (lv_at hl 2 rfl) ?_
      obtain ⟨t5, e5, hf⟩ := q_ob hf
      refine x_dsub (pc := 75) X e5 dX10_spread_75 ?_
      refine lv_dstore (pc := 76) (lv' := [(9, .double t5), (0, .ref (h 0)), (2, .int l2), (4, .double l4), (6, .double l6), (8, .int l8)]) hx hb dX10_spread_76 hl (by decide) rfl (fun ls hl => ?_)
      refine lv_dload (pc := 78) hx hb dX10_spread_78 (lv_at hl 4 rfl) ?_
      refine lv_dload (pc := 80) hx hb dX10_spread_80 (lv_at hl 0 rfl) ?_
      refine lv_dload (pc := 82) hx hb dX10_spread_82 (lv_at hl 0 rfl) ?_
      obtain ⟨t6, e6, hf⟩ := q_ob hf
      refine x_dmul (pc := 84) X e6 dX10_spread_84 ?_
      obtain ⟨t7, e7, hf⟩ := q_ob hf
      refine x_dadd (pc := 85) X e7 dX10_spread_85 ?_
      refine lv_dstore (pc := 86) (lv' := [(6, .double t7), (9, .double t5), (0, .ref (h 0)), (2, .int l2), (4, .double l4), (8, .int l8)]) hx hb dX10_spread_86 hl (by decide) rfl (fun ls hl => ?_)
      refine lv_iinc (pc := 88) (v := l8 + 1) (lv' := [(8, .int (l8 + 1)), (6, .double t7), (9, .double t5), (0, .ref (h 0)), (2, .int l2), (4, .double l4)]) hx hb dX10_spread_88 hl (k := 5) rfl rfl (by decide) rfl (fun ls hl => ?_)
      refine lv_goto (pc := 91) (tgt := 47) hx hb dX10_spread_91 (by decide) ?_
      exact ih hI (lv_sub hl [3, 4, 5, 1, 0] rfl) hf

set_option maxHeartbeats 4000000 in
set_option maxRecDepth 100000 in
theorem c_X10_spread (l : Launch) (G : GX) (h : Nat → Nat) {l1 : Int32} {l2 : Int32} {z_s : Nat → Int32} {z_paint : Nat → Int32} {z_thrown : Int32} {z_kept : Nat → Int32} {z_isKept : Int32} {z_moveMany : Int32} {z_moves : Nat → Int32} {z_hands : Nat → Int32} {z_troubles : Int32} {z_troubleSorts : Nat → Int32} {z_troubleNumbers : Nat → Int32} {z_asked : Nat → Int32} {z_leasts : Nat → Int32} {z_isSeen : Nat → Int32} {z_classMany : Int32} {z_types : Nat → Int32} {z_typeCounts : Nat → Int32} {z_typeMany : Int32} {z_text : Nat → Int32} {z_signs : Int32} {z_at : Int32} {z_lacks : Int32} {z_clauses : Int32} {z_begun : Int32} {z_letters : Nat → Int32} {z_firsts : Nat → Int32} {z_seconds : Nat → Int32} {z_aside : Nat → Int32} {z_sorts : Nat → Int32} {z_sizes : Nat → Int32} {z_items : Nat → Int64} {res : Int64 × (Nat → Int32)} (hf : f_X10_spread l1 l2 z_s z_paint = some res) : MX l yX10_spread cX10_spread 11 (some .long) rm_X10_spread G (mw G h z_thrown z_s z_kept z_isKept z_moveMany z_moves z_hands z_troubles z_troubleSorts z_troubleNumbers z_asked z_paint z_leasts z_isSeen z_classMany z_types z_typeCounts z_typeMany z_text z_signs z_at z_lacks z_clauses z_begun z_letters z_firsts z_seconds z_aside z_sorts z_sizes z_items) [.ref (h 0), .int l1, .int l2] (mw G h z_thrown z_s z_kept z_isKept z_moveMany z_moves z_hands z_troubles z_troubleSorts z_troubleNumbers z_asked res.2 z_leasts z_isSeen z_classMany z_types z_typeCounts z_typeMany z_text z_signs z_at z_lacks z_clauses z_begun z_letters z_firsts z_seconds z_aside z_sorts z_sizes z_items) (some (.long res.1)) 0 0 := by
  refine MX.of (plainFor_of_name (by decide)) (Nat.le_of_ble_eq_true rfl) ?_
  intro p e s m below meth c A X E hI ls hl
  obtain ⟨hx, hb, hml, hown, hts, hr, hlk⟩ := id X
  have hl : lv_has ls 11 [(0, .ref (h 0)), (1, .int l1), (2, .int l2)] := hl
  unfold f_X10_spread at hf
  refine lv_aload_n (pc := 0) hx hb dX10_spread_0 rfl (lv_at hl 0 rfl) ?_
  refine lv_iload_n (pc := 1) hx hb dX10_spread_1 rfl (lv_at hl 1 rfl) ?_
  obtain ⟨t1, e1, hf⟩ := q_ob hf
  refine x_cVs (pc := 2) (st1 := [.int t1]) (w1 := (mw G h z_thrown z_s z_kept z_isKept z_moveMany z_moves z_hands z_troubles z_troubleSorts z_troubleNumbers z_asked z_paint z_leasts z_isSeen z_classMany z_types z_typeCounts z_typeMany z_text z_signs z_at z_lacks z_clauses z_begun z_letters z_firsts z_seconds z_aside z_sorts z_sizes z_items)) X E hI (c_X10_indexOf l G h e1) kv_X10_233 hd_X10_indexOf ⟨rfl, rfl⟩ (by decide) 0 rfl rfl rfl rfl hl.1 rfl (Nat.le_of_ble_eq_true rfl) dX10_spread_2 ⟨Nat.le_of_ble_eq_true rfl, Nat.le_of_ble_eq_true rfl⟩ rfl (fun H locs hI => ?_)
  refine lv_istore_n (pc := 5) (lv' := [(3, .int t1), (0, .ref (h 0)), (1, .int l1), (2, .int l2)]) hx hb dX10_spread_5 rfl hl (by decide) rfl (fun ls hl => ?_)
  refine lv_iload_n (pc := 6) hx hb dX10_spread_6 rfl (lv_at hl 0 rfl) ?_
  refine lv_iconst (pc := 7) (v := (-1)) hx hb dX10_spread_7 (by decide) ?_
  refine lv_icmp_eq (pc := 8) (tgt := 21) hx hb dX10_spread_8 (by decide) (fun c2 => ?_) (fun c2 => ?_)
  · have hf := q_ip c2 hf
    refine lv_ldc2 (pc := 21) (v := (-9223372036854775808)) hx hb hown (hts _ tw_5_47) dX10_spread_21 ?_
    obtain rfl := Option.some.inj hf
    exact x_lret X hI dX10_spread_24
  · have hf := q_in c2 hf
    refine lv_iload_n (pc := 11) hx hb dX10_spread_11 rfl (lv_at hl 3 rfl) ?_
    refine lv_i2l (pc := 12) (v := (l2 : Int32).toInt64) hx hb dX10_spread_12 rfl ?_
    refine lv_lconst (pc := 13) (v := 0) hx hb dX10_spread_13 (by decide) ?_
    refine lv_lconst (pc := 14) (v := 1) hx hb dX10_spread_14 (by decide) ?_
    obtain ⟨t3, e3, hf⟩ := q_ob hf
    refine x_cSn (pc := 15) (st1 := [.int t3]) X E hI (c_X10_in l G e3) ks_X10_85 hd_X10_in ⟨rfl, rfl⟩ (by decide) rfl hl.1 rfl (Nat.le_of_ble_eq_true rfl) dX10_spread_15 ⟨Nat.le_of_ble_eq_true rfl, Nat.le_of_ble_eq_true rfl⟩ rfl (fun H locs hI => ?_)
    refine lv_if_ne (pc := 18) (tgt := 25) hx hb dX10_spread_18 (by decide) (fun c4 => ?_) (fun c4 => ?_)
    · have hf := q_in c4 hf
      refine lv_aload_n (pc := 25) hx hb dX10_spread_25 rfl (lv_at hl 1 rfl) ?_
      refine lv_iload_n (pc := 26) hx hb dX10_spread_26 rfl (lv_at hl 0 rfl) ?_
      obtain ⟨t5, e5, hf⟩ := q_ob hf
      refine x_cVs (pc := 27) (st1 := [.int t5.1]) (w1 := (mw G h z_thrown z_s z_kept z_isKept z_moveMany z_moves z_hands z_troubles z_troubleSorts z_troubleNumbers z_asked t5.2 z_leasts z_isSeen z_classMany z_types z_typeCounts z_typeMany z_text z_signs z_at z_lacks z_clauses z_begun z_letters z_firsts z_seconds z_aside z_sorts z_sizes z_items)) X E hI (c_X10_heavyOf l G h e5) kv_X10_242 hd_X10_heavyOf ⟨rfl, rfl⟩ (by decide) 0 rfl rfl rfl rfl hl.1 rfl (Nat.le_of_ble_eq_true rfl) dX10_spread_27 ⟨Nat.le_of_ble_eq_true rfl, Nat.le_of_ble_eq_true rfl⟩ rfl (fun H locs hI => ?_)
      refine lv_i2d (pc := 30) hx hb dX10_spread_30 ?_
      refine lv_aload_n (pc := 31) hx hb dX10_spread_31 rfl (lv_at hl 1 rfl) ?_
      refine x_get (pc := 32) X E hI inX10 0 rfl rfl 1 (by decide) tw_3_230 rfl dX10_spread_32 ?_
      refine lv_iconst (pc := 35) (v := 0) hx hb dX10_spread_35 (by decide) ?_
      obtain ⟨t6, e6, hf⟩ := q_ob hf
      refine x_iald (pc := 36) X E hI 1 rfl e6 dX10_spread_36 ?_
      refine lv_i2d (pc := 37) hx hb dX10_spread_37 ?_
      obtain ⟨t7, e7, hf⟩ := q_ob hf
      refine x_ddiv (pc := 38) X e7 dX10_spread_38 ?_
      refine lv_dstore (pc := 39) (lv' := [(4, .double t7), (3, .int t1), (0, .ref (h 0)), (1, .int l1), (2, .int l2)]) hx hb dX10_spread_39 hl (by decide) rfl (fun ls hl => ?_)
      refine lv_dconst0 (pc := 41) hx hb dX10_spread_41 ?_
      refine lv_dstore (pc := 42) (lv' := [(6, .double FP.dconst0), (4, .double t7), (3, .int t1), (0, .ref (h 0)), (1, .int l1), (2, .int l2)]) hx hb dX10_spread_42 hl (by decide) rfl (fun ls hl => ?_)
      refine lv_iconst (pc := 44) (v := 0) hx hb dX10_spread_44 (by decide) ?_
      refine lv_istore (pc := 45) (lv' := [(8, .int 0), (6, .double FP.dconst0), (4, .double t7), (3, .int t1), (0, .ref (h 0)), (1, .int l1), (2, .int l2)]) hx hb dX10_spread_45 hl (by decide) rfl (fun ls hl => ?_)
      refine k_X10_spread_L47 X E (fun l6_8 l8_8 H locs ls hI hl hf => ?_) hI (lv_sub hl [4, 6, 2, 1, 0] rfl) hf
      refine lv_dload (pc := 94) hx hb dX10_spread_94 (lv_at hl 3 rfl) ?_
      refine lv_aload_n (pc := 96) hx hb dX10_spread_96 rfl (lv_at hl 0 rfl) ?_
      refine x_get (pc := 97) X E hI inX10 0 rfl rfl 1 (by decide) tw_3_230 rfl dX10_spread_97 ?_
      refine lv_iconst (pc := 100) (v := 0) hx hb dX10_spread_100 (by decide) ?_
      obtain ⟨t9, e9, hf⟩ := q_ob hf
      refine x_iald (pc := 101) X E hI 1 rfl e9 dX10_spread_101 ?_
      refine lv_i2d (pc := 102) hx hb dX10_spread_102 ?_
      obtain ⟨t10, e10, hf⟩ := q_ob hf
      refine x_ddiv (pc := 103) X e10 dX10_spread_103 ?_
      refine lv_dstore (pc := 104) (lv' := [(8, .double t10), (0, .ref (h 0)), (2, .int l2), (4, .double t7), (6, .double l6_8)]) hx hb dX10_spread_104 hl (by decide) rfl (fun ls hl => ?_)
      refine lv_iload_n (pc := 106) hx hb dX10_spread_106 rfl (lv_at hl 2 rfl) ?_
      refine lv_if_ne (pc := 107) (tgt := 118) hx hb dX10_spread_107 (by decide) (fun c11 => ?_) (fun c11 => ?_)
      · have hf := q_in c11 hf
        refine lv_dload (pc := 118) hx hb dX10_spread_118 (lv_at hl 0 rfl) ?_
        refine lv_d2l (pc := 120) hx hb dX10_spread_120 ?_
        obtain rfl := Option.some.inj hf
        exact x_lret X hI dX10_spread_121
      · have hf := q_ip c11 hf
        refine lv_dload (pc := 110) hx hb dX10_spread_110 (lv_at hl 0 rfl) ?_
        obtain ⟨t12, e12, hf⟩ := q_ob hf
        refine x_cSn (pc := 112) (st1 := [.long t12]) X E hI (c_Jxe99ae_doubleToLongBits_ccdee l G e12) ks_X10_258 hd_Jxe99ae_doubleToLongBits_ccdee ⟨rfl, rfl⟩ (by decide) rfl hl.1 rfl (Nat.le_of_ble_eq_true rfl) dX10_spread_112 ⟨Nat.le_of_ble_eq_true rfl, Nat.le_of_ble_eq_true rfl⟩ rfl (fun H locs hI => ?_)
        refine lv_goto (pc := 115) (tgt := 121) hx hb dX10_spread_115 (by decide) ?_
        obtain rfl := Option.some.inj hf
        exact x_lret X hI dX10_spread_121
    · have hf := q_ip c4 hf
      refine lv_ldc2 (pc := 21) (v := (-9223372036854775808)) hx hb hown (hts _ tw_5_47) dX10_spread_21 ?_
      obtain rfl := Option.some.inj hf
      exact x_lret X hI dX10_spread_24

abbrev rm_X10_feed : Room := { frames := 1, cells := 0, slots := 0, locals := 25 }
set_option maxHeartbeats 4000000 in
set_option maxRecDepth 100000 in
theorem c_X10_feed (l : Launch) (G : GX) (h : Nat → Nat) {l1 : Int32} {z_text : Nat → Int32} {z_signs : Int32} {z_thrown : Int32} {z_s : Nat → Int32} {z_kept : Nat → Int32} {z_isKept : Int32} {z_moveMany : Int32} {z_moves : Nat → Int32} {z_hands : Nat → Int32} {z_troubles : Int32} {z_troubleSorts : Nat → Int32} {z_troubleNumbers : Nat → Int32} {z_asked : Nat → Int32} {z_paint : Nat → Int32} {z_leasts : Nat → Int32} {z_isSeen : Nat → Int32} {z_classMany : Int32} {z_types : Nat → Int32} {z_typeCounts : Nat → Int32} {z_typeMany : Int32} {z_at : Int32} {z_lacks : Int32} {z_clauses : Int32} {z_begun : Int32} {z_letters : Nat → Int32} {z_firsts : Nat → Int32} {z_seconds : Nat → Int32} {z_aside : Nat → Int32} {z_sorts : Nat → Int32} {z_sizes : Nat → Int32} {z_items : Nat → Int64} {res : Int32 × (Nat → Int32) × Int32} (hf : f_X10_feed l1 z_text z_signs = some res) : MX l yX10_feed cX10_feed 2 (some .int) rm_X10_feed G (mw G h z_thrown z_s z_kept z_isKept z_moveMany z_moves z_hands z_troubles z_troubleSorts z_troubleNumbers z_asked z_paint z_leasts z_isSeen z_classMany z_types z_typeCounts z_typeMany z_text z_signs z_at z_lacks z_clauses z_begun z_letters z_firsts z_seconds z_aside z_sorts z_sizes z_items) [.ref (h 0), .int l1] (mw G h z_thrown z_s z_kept z_isKept z_moveMany z_moves z_hands z_troubles z_troubleSorts z_troubleNumbers z_asked z_paint z_leasts z_isSeen z_classMany z_types z_typeCounts z_typeMany res.2.1 res.2.2 z_at z_lacks z_clauses z_begun z_letters z_firsts z_seconds z_aside z_sorts z_sizes z_items) (some (.int res.1)) 0 0 := by
  refine MX.of (plainFor_of_name (by decide)) (Nat.le_of_ble_eq_true rfl) ?_
  intro p e s m below meth c A X E hI ls hl
  obtain ⟨hx, hb, hml, hown, hts, hr, hlk⟩ := id X
  have hl : lv_has ls 2 [(0, .ref (h 0)), (1, .int l1)] := hl
  unfold f_X10_feed at hf
  refine lv_iload_n (pc := 0) hx hb dX10_feed_0 rfl (lv_at hl 1 rfl) ?_
  refine lv_i2l (pc := 1) (v := (l1 : Int32).toInt64) hx hb dX10_feed_1 rfl ?_
  refine lv_lconst (pc := 2) (v := 0) hx hb dX10_feed_2 (by decide) ?_
  refine lv_ldc2 (pc := 3) (v := 127) hx hb hown (hts _ tw_5_146) dX10_feed_3 ?_
  obtain ⟨t1, e1, hf⟩ := q_ob hf
  refine x_cSn (pc := 6) (st1 := [.int t1]) X E hI (c_X10_in l G e1) ks_X10_85 hd_X10_in ⟨rfl, rfl⟩ (by decide) rfl hl.1 rfl (Nat.le_of_ble_eq_true rfl) dX10_feed_6 ⟨Nat.le_of_ble_eq_true rfl, Nat.le_of_ble_eq_true rfl⟩ rfl (fun H locs hI => ?_)
  refine lv_if_ne (pc := 9) (tgt := 15) hx hb dX10_feed_9 (by decide) (fun c2 => ?_) (fun c2 => ?_)
  · have hf := q_in c2 hf
    refine lv_aload_n (pc := 15) hx hb dX10_feed_15 rfl (lv_at hl 0 rfl) ?_
    refine x_get (pc := 16) X E hI inX10 0 rfl rfl 19 (by decide) tw_4_8 rfl dX10_feed_16 ?_
    refine lv_bipush (pc := 19) (v := 100) hx hb dX10_feed_19 (by decide) ?_
    refine lv_icmp_ne (pc := 21) (tgt := 27) hx hb dX10_feed_21 (by decide) (fun c3 => ?_) (fun c3 => ?_)
    · have hf := q_in c3 hf
      refine lv_aload_n (pc := 27) hx hb dX10_feed_27 rfl (lv_at hl 0 rfl) ?_
      refine x_get (pc := 28) X E hI inX10 0 rfl rfl 18 (by decide) tw_4_7 rfl dX10_feed_28 ?_
      refine lv_aload_n (pc := 31) hx hb dX10_feed_31 rfl (lv_at hl 0 rfl) ?_
      refine x_get (pc := 32) X E hI inX10 0 rfl rfl 19 (by decide) tw_4_8 rfl dX10_feed_32 ?_
      refine lv_iload_n (pc := 35) hx hb dX10_feed_35 rfl (lv_at hl 1 rfl) ?_
      obtain ⟨t4, e4, hf⟩ := q_ob hf
      refine x_iast (pc := 36) (w' := (mw G h z_thrown z_s z_kept z_isKept z_moveMany z_moves z_hands z_troubles z_troubleSorts z_troubleNumbers z_asked z_paint z_leasts z_isSeen z_classMany z_types z_typeCounts z_typeMany t4 z_signs z_at z_lacks z_clauses z_begun z_letters z_firsts z_seconds z_aside z_sorts z_sizes z_items)) X E hI 13 rfl e4 rfl dX10_feed_36 (fun H locs hI => ?_)
      refine lv_aload_n (pc := 37) hx hb dX10_feed_37 rfl (lv_at hl 0 rfl) ?_
      refine lv_dup (pc := 38) hx hb dX10_feed_38 rfl ?_
      refine x_get (pc := 39) X E hI inX10 0 rfl rfl 19 (by decide) tw_4_8 rfl dX10_feed_39 ?_
      refine lv_iconst (pc := 42) (v := 1) hx hb dX10_feed_42 (by decide) ?_
      refine lv_iadd (pc := 43) hx hb dX10_feed_43 ?_
      refine x_put (pc := 44) (w' := (mw G h z_thrown z_s z_kept z_isKept z_moveMany z_moves z_hands z_troubles z_troubleSorts z_troubleNumbers z_asked z_paint z_leasts z_isSeen z_classMany z_types z_typeCounts z_typeMany t4 (z_signs + 1) z_at z_lacks z_clauses z_begun z_letters z_firsts z_seconds z_aside z_sorts z_sizes z_items)) X E hI inX10 tyX10 tyX10_ok nmX10 0 rfl rfl 19 (by decide) tw_4_8 rfl rfl rfl (Nat.le_of_ble_eq_true rfl) rfl dX10_feed_44 (fun H locs hI => ?_)
      refine lv_aload_n (pc := 47) hx hb dX10_feed_47 rfl (lv_at hl 0 rfl) ?_
      refine x_get (pc := 48) X E hI inX10 0 rfl rfl 19 (by decide) tw_4_8 rfl dX10_feed_48 ?_
      obtain rfl := Option.some.inj hf
      exact x_iret X hI dX10_feed_51
    · have hf := q_ip c3 hf
      refine lv_bipush (pc := 24) (v := (-4)) hx hb dX10_feed_24 (by decide) ?_
      obtain rfl := Option.some.inj hf
      exact x_iret X hI dX10_feed_26
  · have hf := q_ip c2 hf
    refine lv_bipush (pc := 12) (v := (-2)) hx hb dX10_feed_12 (by decide) ?_
    obtain rfl := Option.some.inj hf
    exact x_iret X hI dX10_feed_14

abbrev rm_X10_here : Room := { frames := 0, cells := 0, slots := 0, locals := 0 }
set_option maxHeartbeats 4000000 in
set_option maxRecDepth 100000 in
theorem c_X10_here (l : Launch) (G : GX) (h : Nat → Nat) {z_text : Nat → Int32} {z_signs : Int32} {z_at : Int32} {z_thrown : Int32} {z_s : Nat → Int32} {z_kept : Nat → Int32} {z_isKept : Int32} {z_moveMany : Int32} {z_moves : Nat → Int32} {z_hands : Nat → Int32} {z_troubles : Int32} {z_troubleSorts : Nat → Int32} {z_troubleNumbers : Nat → Int32} {z_asked : Nat → Int32} {z_paint : Nat → Int32} {z_leasts : Nat → Int32} {z_isSeen : Nat → Int32} {z_classMany : Int32} {z_types : Nat → Int32} {z_typeCounts : Nat → Int32} {z_typeMany : Int32} {z_lacks : Int32} {z_clauses : Int32} {z_begun : Int32} {z_letters : Nat → Int32} {z_firsts : Nat → Int32} {z_seconds : Nat → Int32} {z_aside : Nat → Int32} {z_sorts : Nat → Int32} {z_sizes : Nat → Int32} {z_items : Nat → Int64} {res : Int32} (hf : f_X10_here z_text z_signs z_at = some res) : MX l yX10_here cX10_here 1 (some .int) rm_X10_here G (mw G h z_thrown z_s z_kept z_isKept z_moveMany z_moves z_hands z_troubles z_troubleSorts z_troubleNumbers z_asked z_paint z_leasts z_isSeen z_classMany z_types z_typeCounts z_typeMany z_text z_signs z_at z_lacks z_clauses z_begun z_letters z_firsts z_seconds z_aside z_sorts z_sizes z_items) [.ref (h 0)] (mw G h z_thrown z_s z_kept z_isKept z_moveMany z_moves z_hands z_troubles z_troubleSorts z_troubleNumbers z_asked z_paint z_leasts z_isSeen z_classMany z_types z_typeCounts z_typeMany z_text z_signs z_at z_lacks z_clauses z_begun z_letters z_firsts z_seconds z_aside z_sorts z_sizes z_items) (some (.int res)) 0 0 := by
  refine MX.of (plainFor_of_name (by decide)) (Nat.le_of_ble_eq_true rfl) ?_
  intro p e s m below meth c A X E hI ls hl
  obtain ⟨hx, hb, hml, hown, hts, hr, hlk⟩ := id X
  have hl : lv_has ls 1 [(0, .ref (h 0))] := hl
  unfold f_X10_here at hf
  refine lv_aload_n (pc := 0) hx hb dX10_here_0 rfl (lv_at hl 0 rfl) ?_
  refine x_get (pc := 1) X E hI inX10 0 rfl rfl 20 (by decide) tw_4_9 rfl dX10_here_1 ?_
  refine lv_aload_n (pc := 4) hx hb dX10_here_4 rfl (lv_at hl 0 rfl) ?_
  refine x_get (pc := 5) X E hI inX10 0 rfl rfl 19 (by decide) tw_4_8 rfl dX10_here_5 ?_
  refine lv_icmp_ge (pc := 8) (tgt := 23) hx hb dX10_here_8 (by decide) (fun c1 => ?_) (fun c1 => ?_)
  · have hf := q_ip c1 hf
    refine lv_iconst (pc := 23) (v := (-1)) hx hb dX10_here_23 (by decide) ?_
    obtain rfl := Option.some.inj hf
    exact x_iret X hI dX10_here_24
  · have hf := q_in c1 hf
    refine lv_aload_n (pc := 11) hx hb dX10_here_11 rfl (lv_at hl 0 rfl) ?_
    refine x_get (pc := 12) X E hI inX10 0 rfl rfl 18 (by decide) tw_4_7 rfl dX10_here_12 ?_
    refine lv_aload_n (pc := 15) hx hb dX10_here_15 rfl (lv_at hl 0 rfl) ?_
    refine x_get (pc := 16) X E hI inX10 0 rfl rfl 20 (by decide) tw_4_9 rfl dX10_here_16 ?_
    obtain ⟨t2, e2, hf⟩ := q_ob hf
    refine x_iald (pc := 19) X E hI 13 rfl e2 dX10_here_19 ?_
    refine lv_goto (pc := 20) (tgt := 24) hx hb dX10_here_20 (by decide) ?_
    obtain rfl := Option.some.inj hf
    exact x_iret X hI dX10_here_24

abbrev rm_X10_digits : Room := { frames := 1, cells := 0, slots := 0, locals := 25 }
set_option maxHeartbeats 4000000 in
set_option maxRecDepth 100000 in
theorem k_X10_digits_L4 {p : Program} {l : Launch} {e : Env} {s : State} {m : MethodId} {args : Array Value} {below : List Frame} {meth : Method} {c : Code} {A : Nat → Prop} {G : GX} {h : Nat → Nat} {l1 : Int32} {z_thrown : Int32} {z_s : Nat → Int32} {z_kept : Nat → Int32} {z_isKept : Int32} {z_moveMany : Int32} {z_moves : Nat → Int32} {z_hands : Nat → Int32} {z_troubles : Int32} {z_troubleSorts : Nat → Int32} {z_troubleNumbers : Nat → Int32} {z_asked : Nat → Int32} {z_paint : Nat → Int32} {z_leasts : Nat → Int32} {z_isSeen : Nat → Int32} {z_classMany : Int32} {z_types : Nat → Int32} {z_typeCounts : Nat → Int32} {z_typeMany : Int32} {z_text : Nat → Int32} {z_signs : Int32} {z_lacks : Int32} {z_clauses : Int32} {z_begun : Int32} {z_letters : Nat → Int32} {z_firsts : Nat → Int32} {z_seconds : Nat → Int32} {z_aside : Nat → Int32} {z_sorts : Nat → Int32} {z_sizes : Nat → Int32} {z_items : Nat → Int64} {K : Int32 → Int32 → Int32 → Option (Int32 × Int32 × Int32)} {res : Int32 × Int32 × Int32} (X : CX RX10 cX10_digits 4 (some .int) p s m args meth c) (E : EX G A s)
    (hK : ∀ (l2 : Int32) (l3 : Int32) (z_at : Int32) (H : Heap) (locs : List Loc) (ls : Array Slot), IN A G (mw G h z_thrown z_s z_kept z_isKept z_moveMany z_moves z_hands z_troubles z_troubleSorts z_troubleNumbers z_asked z_paint z_leasts z_isSeen z_classMany z_types z_typeCounts z_typeMany z_text z_signs z_at z_lacks z_clauses z_begun z_letters z_firsts z_seconds z_aside z_sorts z_sizes z_items) s H locs → lv_has ls 4 [(0, .ref (h 0)), (1, .int l1), (2, .int l2), (3, .int l3)] → K l2 l3 z_at = some res → W p l e rm_X10_digits s m args below meth c H locs 0 0 (MQ below (QX G A (mw G h z_thrown z_s z_kept z_isKept z_moveMany z_moves z_hands z_troubles z_troubleSorts z_troubleNumbers z_asked z_paint z_leasts z_isSeen z_classMany z_types z_typeCounts z_typeMany z_text z_signs res.2.1 res.2.2 z_clauses z_begun z_letters z_firsts z_seconds z_aside z_sorts z_sizes z_items) (some (.int res.1))) args s 0 0 A) (F0 m 67 ls [])) :
    ∀ {k : Nat} {l2 : Int32} {l3 : Int32} {z_at : Int32} {H : Heap} {locs : List Loc} {ls : Array Slot}, IN A G (mw G h z_thrown z_s z_kept z_isKept z_moveMany z_moves z_hands z_troubles z_troubleSorts z_troubleNumbers z_asked z_paint z_leasts z_isSeen z_classMany z_types z_typeCounts z_typeMany z_text z_signs z_at z_lacks z_clauses z_begun z_letters z_firsts z_seconds z_aside z_sorts z_sizes z_items) s H locs → lv_has ls 4 [(0, .ref (h 0)), (1, .int l1), (2, .int l2), (3, .int l3)] → f_X10_digits_L4 l1 z_text z_signs z_lacks K k l2 l3 z_at = some res → W p l e rm_X10_digits s m args below meth c H locs 0 0 (MQ below (QX G A (mw G h z_thrown z_s z_kept z_isKept z_moveMany z_moves z_hands z_troubles z_troubleSorts z_troubleNumbers z_asked z_paint z_leasts z_isSeen z_classMany z_types z_typeCounts z_typeMany z_text z_signs res.2.1 res.2.2 z_clauses z_begun z_letters z_firsts z_seconds z_aside z_sorts z_sizes z_items) (some (.int res.1))) args s 0 0 A) (F0 m 4 ls []) := by
  obtain ⟨hx, hb, hml, hown, hts, hr, hlk⟩ := id X
  intro k
  induction k with
  | zero => intro l2 l3 z_at H locs ls hI hl hf; exact nomatch (show none = some res from hf)
  | succ k ih =>
    intro l2 l3 z_at H locs ls hI hl hf
    rw [f_X10_digits_L4] at hf
    refine lv_aload_n (pc := 4) hx hb dX10_digits_4 rfl (lv_at hl 0 rfl) ?_
    refine x_get (pc := 5) X E hI inX10 0 rfl rfl 21 (by decide) tw_4_10 rfl dX10_digits_5 ?_
    refine lv_if_ne (pc := 8) (tgt := 67) hx hb dX10_digits_8 (by decide) (fun c1 => ?_) (fun c1 => ?_)
    · have hf := q_in c1 hf
      exact hK _ _ _ _ _ _ hI (lv_sub hl [0, 1, 2, 3] rfl) hf
    · have hf := q_ip c1 hf
      refine lv_iload_n (pc := 11) hx hb dX10_digits_11 rfl (lv_at hl 3 rfl) ?_
      refine lv_iload_n (pc := 12) hx hb dX10_digits_12 rfl (lv_at hl 1 rfl) ?_
      refine lv_icmp_ge (pc := 13) (tgt := 67) hx hb dX10_digits_13 (by decide) (fun c2 => ?_) (fun c2 => ?_)
      · have hf := q_ip c2 hf
        exact hK _ _ _ _ _ _ hI (lv_sub hl [0, 1, 2, 3] rfl) hf
      · have hf := q_in c2 hf
        refine lv_aload_n (pc := 16) hx hb dX10_digits_16 rfl (lv_at hl 0 rfl) ?_
        obtain ⟨t3, e3, hf⟩ := q_ob hf
        refine x_cVs (pc := 17) (st1 := [.int t3]) (w1 := (mw G h z_thrown z_s z_kept z_isKept z_moveMany z_moves z_hands z_troubles z_troubleSorts z_troubleNumbers z_asked z_paint z_leasts z_isSeen z_classMany z_types z_typeCounts z_typeMany z_text z_signs z_at z_lacks z_clauses z_begun z_letters z_firsts z_seconds z_aside z_sorts z_sizes z_items)) X E hI (c_X10_here l G h e3) kv_X10_276 hd_X10_here ⟨rfl, rfl⟩ (by decide) 0 rfl rfl rfl rfl hl.1 rfl (Nat.le_of_ble_eq_true rfl) dX10_digits_17 ⟨Nat.le_of_ble_eq_true rfl, Nat.le_of_ble_eq_true rfl⟩ rfl (fun H locs hI => ?_)
        refine lv_i2l (pc := 20) (v := (t3 : Int32).toInt64) hx hb dX10_digits_20 rfl ?_
        refine lv_ldc2 (pc := 21) (v := 48) hx hb hown (hts _ tw_5_163) dX10_digits_21 ?_
        refine lv_ldc2 (pc := 24) (v := 57) hx hb hown (hts _ tw_5_164) dX10_digits_24 ?_
        obtain ⟨t4, e4, hf⟩ := q_ob hf
        refine x_cSn (pc := 27) (st1 := [.int t4]) X E hI (c_X10_in l G e4) ks_X10_85 hd_X10_in ⟨rfl, rfl⟩ (by decide) rfl hl.1 rfl (Nat.le_of_ble_eq_true rfl) dX10_digits_27 ⟨Nat.le_of_ble_eq_true rfl, Nat.le_of_ble_eq_true rfl⟩ rfl (fun H locs hI => ?_)
        refine lv_if_eq (pc := 30) (tgt := 67) hx hb dX10_digits_30 (by decide) (fun c5 => ?_) (fun c5 => ?_)
        · have hf := q_ip c5 hf
          exact hK _ _ _ _ _ _ hI (lv_sub hl [0, 1, 2, 3] rfl) hf
        · have hf := q_in c5 hf
          refine lv_bipush (pc := 33) (v := 10) hx hb dX10_digits_33 (by decide) ?_
          refine lv_iload_n (pc := 35) hx hb dX10_digits_35 rfl (lv_at hl 2 rfl) ?_
          refine lv_imul (pc := 36) hx hb dX10_digits_36 ?_
          refine lv_aload_n (pc := 37) hx hb dX10_digits_37 rfl (lv_at hl 0 rfl) ?_
          refine x_get (pc := 38) X E hI inX10 0 rfl rfl 18 (by decide) tw_4_7 rfl dX10_digits_38 ?_
          refine lv_aload_n (pc := 41) hx hb dX10_digits_41 rfl (lv_at hl 0 rfl) ?_
          refine x_get (pc := 42) X E hI inX10 0 rfl rfl 20 (by decide) tw_4_9 rfl dX10_digits_42 ?_
          obtain ⟨t6, e6, hf⟩ := q_ob hf
          refine x_iald (pc := 45) X E hI 13 rfl e6 dX10_digits_45 ?_
          refine lv_iadd (pc := 46) hx hb dX10_digits_46 ?_
          refine lv_bipush (pc := 47) (v := 48) hx hb dX10_digits_47 (by decide) ?_
          refine lv_isub (pc := 49) hx hb dX10_digits_49 ?_
          refine lv_istore_n (pc := 50) (lv' := [(2, .int (((10 * l2) + t6) - 48)), (0, .ref (h 0)), (1, .int l1), (3, .int l3)]) hx hb dX10_digits_50 rfl hl (by decide) rfl (fun ls hl => ?_)
          refine lv_aload_n (pc := 51) hx hb dX10_digits_51 rfl (lv_at hl 1 rfl) ?_
          refine lv_dup (pc := 52) hx hb dX10_digits_52 rfl ?_
          refine x_get (pc := 53) X E hI inX10 0 rfl rfl 20 (by decide) tw_4_9 rfl dX10_digits_53 ?_
          refine lv_iconst (pc := 56) (v := 1) hx hb dX10_digits_56 (by decide) ?_
          refine lv_iadd (pc := 57) hx hb dX10_digits_57 ?_
          refine x_put (pc := 58) (w' := (mw G h z_thrown z_s z_kept z_isKept z_moveMany z_moves z_hands z_troubles z_troubleSorts z_troubleNumbers z_asked z_paint z_leasts z_isSeen z_classMany z_types z_typeCounts z_typeMany z_text z_signs (z_at + 1) z_lacks z_clauses z_begun z_letters z_firsts z_seconds z_aside z_sorts z_sizes z_items)) X E hI inX10 tyX10 tyX10_ok nmX10 0 rfl rfl 20 (by decide) tw_4_9 rfl rfl rfl (Nat.le_of_ble_eq_true rfl) rfl dX10_digits_58 (fun H locs hI => ?_)
          refine lv_iinc (pc := 61) (v := l3 + 1) (lv' := [(3, .int (l3 + 1)), (2, .int (((10 * l2) + t6) - 48)), (0, .ref (h 0)), (1, .int l1)]) hx hb dX10_digits_61 hl (k := 3) rfl rfl (by decide) rfl (fun ls hl => ?_)
          refine lv_goto (pc := 64) (tgt := 4) hx hb dX10_digits_64 (by decide) ?_
          exact ih hI (lv_sub hl [2, 3, 1, 0] rfl) hf

set_option maxHeartbeats 4000000 in
set_option maxRecDepth 100000 in
theorem c_X10_digits (l : Launch) (G : GX) (h : Nat → Nat) {l1 : Int32} {z_text : Nat → Int32} {z_signs : Int32} {z_at : Int32} {z_lacks : Int32} {z_thrown : Int32} {z_s : Nat → Int32} {z_kept : Nat → Int32} {z_isKept : Int32} {z_moveMany : Int32} {z_moves : Nat → Int32} {z_hands : Nat → Int32} {z_troubles : Int32} {z_troubleSorts : Nat → Int32} {z_troubleNumbers : Nat → Int32} {z_asked : Nat → Int32} {z_paint : Nat → Int32} {z_leasts : Nat → Int32} {z_isSeen : Nat → Int32} {z_classMany : Int32} {z_types : Nat → Int32} {z_typeCounts : Nat → Int32} {z_typeMany : Int32} {z_clauses : Int32} {z_begun : Int32} {z_letters : Nat → Int32} {z_firsts : Nat → Int32} {z_seconds : Nat → Int32} {z_aside : Nat → Int32} {z_sorts : Nat → Int32} {z_sizes : Nat → Int32} {z_items : Nat → Int64} {res : Int32 × Int32 × Int32} (hf : f_X10_digits l1 z_text z_signs z_at z_lacks = some res) : MX l yX10_digits cX10_digits 4 (some .int) rm_X10_digits G (mw G h z_thrown z_s z_kept z_isKept z_moveMany z_moves z_hands z_troubles z_troubleSorts z_troubleNumbers z_asked z_paint z_leasts z_isSeen z_classMany z_types z_typeCounts z_typeMany z_text z_signs z_at z_lacks z_clauses z_begun z_letters z_firsts z_seconds z_aside z_sorts z_sizes z_items) [.ref (h 0), .int l1] (mw G h z_thrown z_s z_kept z_isKept z_moveMany z_moves z_hands z_troubles z_troubleSorts z_troubleNumbers z_asked z_paint z_leasts z_isSeen z_classMany z_types z_typeCounts z_typeMany z_text z_signs res.2.1 res.2.2 z_clauses z_begun z_letters z_firsts z_seconds z_aside z_sorts z_sizes z_items) (some (.int res.1)) 0 0 := by
  refine MX.of (plainFor_of_name (by decide)) (Nat.le_of_ble_eq_true rfl) ?_
  intro p e s m below meth c A X E hI ls hl
  obtain ⟨hx, hb, hml, hown, hts, hr, hlk⟩ := id X
  have hl : lv_has ls 4 [(0, .ref (h 0)), (1, .int l1)] := hl
  unfold f_X10_digits at hf
  refine lv_iconst (pc := 0) (v := 0) hx hb dX10_digits_0 (by decide) ?_
  refine lv_istore_n (pc := 1) (lv' := [(2, .int 0), (0, .ref (h 0)), (1, .int l1)]) hx hb dX10_digits_1 rfl hl (by decide) rfl (fun ls hl => ?_)
  refine lv_iconst (pc := 2) (v := 0) hx hb dX10_digits_2 (by decide) ?_
  refine lv_istore_n (pc := 3) (lv' := [(3, .int 0), (2, .int 0), (0, .ref (h 0)), (1, .int l1)]) hx hb dX10_digits_3 rfl hl (by decide) rfl (fun ls hl => ?_)
  refine k_X10_digits_L4 X E (fun l2_1 l3_1 z_at_1 H locs ls hI hl hf => ?_) hI (lv_sub hl [2, 3, 1, 0] rfl) hf
  refine lv_aload_n (pc := 67) hx hb dX10_digits_67 rfl (lv_at hl 0 rfl) ?_
  refine lv_aload_n (pc := 68) hx hb dX10_digits_68 rfl (lv_at hl 0 rfl) ?_
  refine x_get (pc := 69) X E hI inX10 0 rfl rfl 21 (by decide) tw_4_10 rfl dX10_digits_69 ?_
  refine lv_if_ne (pc := 72) (tgt := 83) hx hb dX10_digits_72 (by decide) (fun c2 => ?_) (fun c2 => ?_)
  · have hf := q_in c2 hf
    refine lv_aload_n (pc := 83) hx hb dX10_digits_83 rfl (lv_at hl 0 rfl) ?_
    refine x_get (pc := 84) X E hI inX10 0 rfl rfl 21 (by decide) tw_4_10 rfl dX10_digits_84 ?_
    refine x_put (pc := 87) (w' := (mw G h z_thrown z_s z_kept z_isKept z_moveMany z_moves z_hands z_troubles z_troubleSorts z_troubleNumbers z_asked z_paint z_leasts z_isSeen z_classMany z_types z_typeCounts z_typeMany z_text z_signs z_at_1 z_lacks z_clauses z_begun z_letters z_firsts z_seconds z_aside z_sorts z_sizes z_items)) X E hI inX10 tyX10 tyX10_ok nmX10 0 rfl rfl 21 (by decide) tw_4_10 rfl rfl rfl (Nat.le_of_ble_eq_true rfl) rfl dX10_digits_87 (fun H locs hI => ?_)
    refine lv_iload_n (pc := 90) hx hb dX10_digits_90 rfl (lv_at hl 2 rfl) ?_
    obtain rfl := Option.some.inj hf
    exact x_iret X hI dX10_digits_91
  · have hf := q_ip c2 hf
    refine lv_iload_n (pc := 75) hx hb dX10_digits_75 rfl (lv_at hl 3 rfl) ?_
    refine lv_if_ne (pc := 76) (tgt := 83) hx hb dX10_digits_76 (by decide) (fun c3 => ?_) (fun c3 => ?_)
    · have hf := q_in c3 hf
      refine lv_aload_n (pc := 83) hx hb dX10_digits_83 rfl (lv_at hl 0 rfl) ?_
      refine x_get (pc := 84) X E hI inX10 0 rfl rfl 21 (by decide) tw_4_10 rfl dX10_digits_84 ?_
      refine x_put (pc := 87) (w' := (mw G h z_thrown z_s z_kept z_isKept z_moveMany z_moves z_hands z_troubles z_troubleSorts z_troubleNumbers z_asked z_paint z_leasts z_isSeen z_classMany z_types z_typeCounts z_typeMany z_text z_signs z_at_1 z_lacks z_clauses z_begun z_letters z_firsts z_seconds z_aside z_sorts z_sizes z_items)) X E hI inX10 tyX10 tyX10_ok nmX10 0 rfl rfl 21 (by decide) tw_4_10 rfl rfl rfl (Nat.le_of_ble_eq_true rfl) rfl dX10_digits_87 (fun H locs hI => ?_)
      refine lv_iload_n (pc := 90) hx hb dX10_digits_90 rfl (lv_at hl 2 rfl) ?_
      obtain rfl := Option.some.inj hf
      exact x_iret X hI dX10_digits_91
    · have hf := q_ip c3 hf
      refine lv_iconst (pc := 79) (v := 3) hx hb dX10_digits_79 (by decide) ?_
      refine lv_goto (pc := 80) (tgt := 87) hx hb dX10_digits_80 (by decide) ?_
      refine x_put (pc := 87) (w' := (mw G h z_thrown z_s z_kept z_isKept z_moveMany z_moves z_hands z_troubles z_troubleSorts z_troubleNumbers z_asked z_paint z_leasts z_isSeen z_classMany z_types z_typeCounts z_typeMany z_text z_signs z_at_1 3 z_clauses z_begun z_letters z_firsts z_seconds z_aside z_sorts z_sizes z_items)) X E hI inX10 tyX10 tyX10_ok nmX10 0 rfl rfl 21 (by decide) tw_4_10 rfl rfl rfl (Nat.le_of_ble_eq_true rfl) rfl dX10_digits_87 (fun H locs hI => ?_)
      refine lv_iload_n (pc := 90) hx hb dX10_digits_90 rfl (lv_at hl 2 rfl) ?_
      obtain rfl := Option.some.inj hf
      exact x_iret X hI dX10_digits_91

