abbrev rm_X10_generator : Room := { frames := 5, cells := 0, slots := 0, locals := 112 }
set_option maxHeartbeats 4000000 in
set_option maxRecDepth 100000 in
theorem k_X10_generator_L54 {p : Program} {l : Launch} {e : Env} {s : State} {m : MethodId} {args : Array Value} {below : List Frame} {meth : Method} {c : Code} {A : Nat → Prop} {G : GX} {h : Nat → Nat} {l2 : Int32} {l3 : Int32} {z_thrown : Int32} {z_kept : Nat → Int32} {z_isKept : Int32} {z_moveMany : Int32} {z_moves : Nat → Int32} {z_hands : Nat → Int32} {z_troubles : Int32} {z_troubleSorts : Nat → Int32} {z_troubleNumbers : Nat → Int32} {z_asked : Nat → Int32} {z_paint : Nat → Int32} {z_leasts : Nat → Int32} {z_isSeen : Nat → Int32} {z_classMany : Int32} {z_types : Nat → Int32} {z_typeCounts : Nat → Int32} {z_typeMany : Int32} {z_text : Nat → Int32} {z_signs : Int32} {z_at : Int32} {z_lacks : Int32} {z_clauses : Int32} {z_begun : Int32} {z_letters : Nat → Int32} {z_firsts : Nat → Int32} {z_seconds : Nat → Int32} {z_aside : Nat → Int32} {z_sorts : Nat → Int32} {z_sizes : Nat → Int32} {z_items : Nat → Int64} {K : Int32 → Int32 → (Nat → Int32) → Option (Int32 × (Nat → Int32) × Int32 × (Nat → Int32) × (Nat → Int32) × Int32 × (Nat → Int32) × (Nat → Int32))} {res : Int32 × (Nat → Int32) × Int32 × (Nat → Int32) × (Nat → Int32) × Int32 × (Nat → Int32) × (Nat → Int32)} (X : CX RX10 cX10_generator 6 (some .int) p s m args meth c) (E : EX G A s)
    (hK : ∀ (l4 : Int32) (l5 : Int32) (z_s : (Nat → Int32)) (H : Heap) (locs : List Loc) (ls : Array Slot), IN A G (mw G h z_thrown z_s z_kept z_isKept z_moveMany z_moves z_hands z_troubles z_troubleSorts z_troubleNumbers z_asked z_paint z_leasts z_isSeen z_classMany z_types z_typeCounts z_typeMany z_text z_signs z_at z_lacks z_clauses z_begun z_letters z_firsts z_seconds z_aside z_sorts z_sizes z_items) s H locs → lv_has ls 6 [(0, .ref (h 0)), (2, .int l2), (3, .int l3), (4, .int l4), (5, .int l5)] → K l4 l5 z_s = some res → W p l e rm_X10_generator s m args below meth c H locs 0 0 (MQ below (QX G A (mw G h z_thrown res.2.1 z_kept z_isKept res.2.2.1 res.2.2.2.1 res.2.2.2.2.1 res.2.2.2.2.2.1 res.2.2.2.2.2.2.1 res.2.2.2.2.2.2.2 z_asked z_paint z_leasts z_isSeen z_classMany z_types z_typeCounts z_typeMany z_text z_signs z_at z_lacks z_clauses z_begun z_letters z_firsts z_seconds z_aside z_sorts z_sizes z_items) (some (.int res.1))) args s 0 0 A) (F0 m 94 ls [])) :
    ∀ {k : Nat} {l4 : Int32} {l5 : Int32} {z_s : (Nat → Int32)} {H : Heap} {locs : List Loc} {ls : Array Slot}, IN A G (mw G h z_thrown z_s z_kept z_isKept z_moveMany z_moves z_hands z_troubles z_troubleSorts z_troubleNumbers z_asked z_paint z_leasts z_isSeen z_classMany z_types z_typeCounts z_typeMany z_text z_signs z_at z_lacks z_clauses z_begun z_letters z_firsts z_seconds z_aside z_sorts z_sizes z_items) s H locs → lv_has ls 6 [(0, .ref (h 0)), (2, .int l2), (3, .int l3), (4, .int l4), (5, .int l5)] → f_X10_generator_L54 l2 l3 K k l4 l5 z_s = some res → W p l e rm_X10_generator s m args below meth c H locs 0 0 (MQ below (QX G A (mw G h z_thrown res.2.1 z_kept z_isKept res.2.2.1 res.2.2.2.1 res.2.2.2.2.1 res.2.2.2.2.2.1 res.2.2.2.2.2.2.1 res.2.2.2.2.2.2.2 z_asked z_paint z_leasts z_isSeen z_classMany z_types z_typeCounts z_typeMany z_text z_signs z_at z_lacks z_clauses z_begun z_letters z_firsts z_seconds z_aside z_sorts z_sizes z_items) (some (.int res.1))) args s 0 0 A) (F0 m 54 ls []) := by
  obtain ⟨hx, hb, hml, hown, hts, hr, hlk⟩ := id X
  intro k
  induction k with
  | zero => intro l4 l5 z_s H locs ls hI hl hf; exact nomatch (show none = some res from hf)
  | succ k ih =>
    intro l4 l5 z_s H locs ls hI hl hf
    rw [f_X10_generator_L54] at hf
    refine lv_iload (pc := 54) hx hb dX10_generator_54 (lv_at hl 4 rfl) ?_
    refine lv_if_lt (pc := 56) (tgt := 94) hx hb dX10_generator_56 (by decide) (fun c1 => ?_) (fun c1 => ?_)
    · have hf := q_ip c1 hf
      exact hK _ _ _ _ _ _ hI (lv_sub hl [0, 1, 2, 3, 4] rfl) hf
    · have hf := q_in c1 hf
      refine lv_aload_n (pc := 59) hx hb dX10_generator_59 rfl (lv_at hl 0 rfl) ?_
      refine x_get (pc := 60) X E hI inX10 0 rfl rfl 1 (by decide) tw_3_230 rfl dX10_generator_60 ?_
      refine lv_bipush (pc := 63) (v := 9) hx hb dX10_generator_63 (by decide) ?_
      refine lv_bipush (pc := 65) (v := 6) hx hb dX10_generator_65 (by decide) ?_
      refine lv_iload_n (pc := 67) hx hb dX10_generator_67 rfl (lv_at hl 2 rfl) ?_
      refine lv_imul (pc := 68) hx hb dX10_generator_68 ?_
      refine lv_iadd (pc := 69) hx hb dX10_generator_69 ?_
      refine lv_iload (pc := 70) hx hb dX10_generator_70 (lv_at hl 4 rfl) ?_
      refine lv_iadd (pc := 72) hx hb dX10_generator_72 ?_
      refine lv_iload (pc := 73) hx hb dX10_generator_73 (lv_at hl 3 rfl) ?_
      refine lv_bipush (pc := 75) (v := 10) hx hb dX10_generator_75 (by decide) ?_
      obtain ⟨t2, e2, hf⟩ := q_ob hf
      refine x_irem (pc := 77) X e2 dX10_generator_77 ?_
      refine lv_iconst (pc := 78) (v := 1) hx hb dX10_generator_78 (by decide) ?_
      refine lv_isub (pc := 79) hx hb dX10_generator_79 ?_
      obtain ⟨t3, e3, hf⟩ := q_ob hf
      refine x_iast (pc := 80) (w' := (mw G h z_thrown t3 z_kept z_isKept z_moveMany z_moves z_hands z_troubles z_troubleSorts z_troubleNumbers z_asked z_paint z_leasts z_isSeen z_classMany z_types z_typeCounts z_typeMany z_text z_signs z_at z_lacks z_clauses z_begun z_letters z_firsts z_seconds z_aside z_sorts z_sizes z_items)) X E hI 1 rfl e3 rfl dX10_generator_80 (fun H locs hI => ?_)
      refine lv_iload (pc := 81) hx hb dX10_generator_81 (lv_at hl 3 rfl) ?_
      refine lv_bipush (pc := 83) (v := 10) hx hb dX10_generator_83 (by decide) ?_
      obtain ⟨t4, e4, hf⟩ := q_ob hf
      refine x_idiv (pc := 85) X e4 dX10_generator_85 ?_
      refine lv_istore (pc := 86) (lv' := [(4, .int t4), (0, .ref (h 0)), (2, .int l2), (3, .int l3), (5, .int l5)]) hx hb dX10_generator_86 hl (by decide) rfl (fun ls hl => ?_)
      refine lv_iinc (pc := 88) (v := l5 + (-1)) (lv' := [(5, .int (l5 + (-1))), (4, .int t4), (0, .ref (h 0)), (2, .int l2), (3, .int l3)]) hx hb dX10_generator_88 hl (k := 4) rfl rfl (by decide) rfl (fun ls hl => ?_)
      refine lv_goto (pc := 91) (tgt := 54) hx hb dX10_generator_91 (by decide) ?_
      exact ih hI (lv_sub hl [2, 3, 4, 1, 0] rfl) hf

set_option maxHeartbeats 4000000 in
set_option maxRecDepth 100000 in
theorem c_X10_generator (l : Launch) (G : GX) (h : Nat → Nat) {l1 : Int32} {l2 : Int32} {z_s : Nat → Int32} {z_moveMany : Int32} {z_moves : Nat → Int32} {z_hands : Nat → Int32} {z_troubles : Int32} {z_troubleSorts : Nat → Int32} {z_troubleNumbers : Nat → Int32} {z_thrown : Int32} {z_kept : Nat → Int32} {z_isKept : Int32} {z_asked : Nat → Int32} {z_paint : Nat → Int32} {z_leasts : Nat → Int32} {z_isSeen : Nat → Int32} {z_classMany : Int32} {z_types : Nat → Int32} {z_typeCounts : Nat → Int32} {z_typeMany : Int32} {z_text : Nat → Int32} {z_signs : Int32} {z_at : Int32} {z_lacks : Int32} {z_clauses : Int32} {z_begun : Int32} {z_letters : Nat → Int32} {z_firsts : Nat → Int32} {z_seconds : Nat → Int32} {z_aside : Nat → Int32} {z_sorts : Nat → Int32} {z_sizes : Nat → Int32} {z_items : Nat → Int64} {res : Int32 × (Nat → Int32) × Int32 × (Nat → Int32) × (Nat → Int32) × Int32 × (Nat → Int32) × (Nat → Int32)} (hf : f_X10_generator l1 l2 z_s z_moveMany z_moves z_hands z_troubles z_troubleSorts z_troubleNumbers = some res) : MX l yX10_generator cX10_generator 6 (some .int) rm_X10_generator G (mw G h z_thrown z_s z_kept z_isKept z_moveMany z_moves z_hands z_troubles z_troubleSorts z_troubleNumbers z_asked z_paint z_leasts z_isSeen z_classMany z_types z_typeCounts z_typeMany z_text z_signs z_at z_lacks z_clauses z_begun z_letters z_firsts z_seconds z_aside z_sorts z_sizes z_items) [.ref (h 0), .int l1, .int l2] (mw G h z_thrown res.2.1 z_kept z_isKept res.2.2.1 res.2.2.2.1 res.2.2.2.2.1 res.2.2.2.2.2.1 res.2.2.2.2.2.2.1 res.2.2.2.2.2.2.2 z_asked z_paint z_leasts z_isSeen z_classMany z_types z_typeCounts z_typeMany z_text z_signs z_at z_lacks z_clauses z_begun z_letters z_firsts z_seconds z_aside z_sorts z_sizes z_items) (some (.int res.1)) 0 0 := by
  refine MX.of (plainFor_of_name (by decide)) (Nat.le_of_ble_eq_true rfl) ?_
  intro p e s m below meth c A X E hI ls hl
  obtain ⟨hx, hb, hml, hown, hts, hr, hlk⟩ := id X
  have hl : lv_has ls 6 [(0, .ref (h 0)), (1, .int l1), (2, .int l2)] := hl
  unfold f_X10_generator at hf
  refine lv_aload_n (pc := 0) hx hb dX10_generator_0 rfl (lv_at hl 0 rfl) ?_
  refine lv_iload_n (pc := 1) hx hb dX10_generator_1 rfl (lv_at hl 1 rfl) ?_
  obtain ⟨t1, e1, hf⟩ := q_ob hf
  refine x_cVs (pc := 2) (st1 := [.int t1]) (w1 := (mw G h z_thrown z_s z_kept z_isKept z_moveMany z_moves z_hands z_troubles z_troubleSorts z_troubleNumbers z_asked z_paint z_leasts z_isSeen z_classMany z_types z_typeCounts z_typeMany z_text z_signs z_at z_lacks z_clauses z_begun z_letters z_firsts z_seconds z_aside z_sorts z_sizes z_items)) X E hI (c_X10_isRow l G h e1) kv_X10_138 hd_X10_isRow ⟨rfl, rfl⟩ (by decide) 0 rfl rfl rfl rfl hl.1 rfl (Nat.le_of_ble_eq_true rfl) dX10_generator_2 ⟨Nat.le_of_ble_eq_true rfl, Nat.le_of_ble_eq_true rfl⟩ rfl (fun H locs hI => ?_)
  refine lv_if_eq (pc := 5) (tgt := 18) hx hb dX10_generator_5 (by decide) (fun c2 => ?_) (fun c2 => ?_)
  · have hf := q_ip c2 hf
    refine lv_bipush (pc := 18) (v := (-2)) hx hb dX10_generator_18 (by decide) ?_
    obtain rfl := Option.some.inj hf
    exact x_iret X hI dX10_generator_20
  · have hf := q_in c2 hf
    refine lv_iload_n (pc := 8) hx hb dX10_generator_8 rfl (lv_at hl 2 rfl) ?_
    refine lv_i2l (pc := 9) (v := (l2 : Int32).toInt64) hx hb dX10_generator_9 rfl ?_
    refine lv_lconst (pc := 10) (v := 0) hx hb dX10_generator_10 (by decide) ?_
    refine lv_lconst (pc := 11) (v := 1) hx hb dX10_generator_11 (by decide) ?_
    obtain ⟨t3, e3, hf⟩ := q_ob hf
    refine x_cSn (pc := 12) (st1 := [.int t3]) X E hI (c_X10_in l G e3) ks_X10_85 hd_X10_in ⟨rfl, rfl⟩ (by decide) rfl hl.1 rfl (Nat.le_of_ble_eq_true rfl) dX10_generator_12 ⟨Nat.le_of_ble_eq_true rfl, Nat.le_of_ble_eq_true rfl⟩ rfl (fun H locs hI => ?_)
    refine lv_if_ne (pc := 15) (tgt := 21) hx hb dX10_generator_15 (by decide) (fun c4 => ?_) (fun c4 => ?_)
    · have hf := q_in c4 hf
      refine lv_aload_n (pc := 21) hx hb dX10_generator_21 rfl (lv_at hl 0 rfl) ?_
      refine x_get (pc := 22) X E hI inX10 0 rfl rfl 1 (by decide) tw_3_230 rfl dX10_generator_22 ?_
      refine lv_iconst (pc := 25) (v := 2) hx hb dX10_generator_25 (by decide) ?_
      obtain ⟨t5, e5, hf⟩ := q_ob hf
      refine x_iald (pc := 26) X E hI 1 rfl e5 dX10_generator_26 ?_
      refine lv_iconst (pc := 27) (v := 4) hx hb dX10_generator_27 (by decide) ?_
      refine lv_icmp_ne (pc := 28) (tgt := 34) hx hb dX10_generator_28 (by decide) (fun c6 => ?_) (fun c6 => ?_)
      · have hf := q_in c6 hf
        refine lv_aload_n (pc := 34) hx hb dX10_generator_34 rfl (lv_at hl 0 rfl) ?_
        refine x_get (pc := 35) X E hI inX10 0 rfl rfl 1 (by decide) tw_3_230 rfl dX10_generator_35 ?_
        refine lv_iconst (pc := 38) (v := 2) hx hb dX10_generator_38 (by decide) ?_
        obtain ⟨t7, e7, hf⟩ := q_ob hf
        refine x_iald (pc := 39) X E hI 1 rfl e7 dX10_generator_39 ?_
        refine lv_istore_n (pc := 40) (lv' := [(3, .int t7), (0, .ref (h 0)), (1, .int l1), (2, .int l2)]) hx hb dX10_generator_40 rfl hl (by decide) rfl (fun ls hl => ?_)
        refine lv_iload_n (pc := 41) hx hb dX10_generator_41 rfl (lv_at hl 2 rfl) ?_
        refine lv_istore (pc := 42) (lv' := [(4, .int l1), (3, .int t7), (0, .ref (h 0)), (1, .int l1), (2, .int l2)]) hx hb dX10_generator_42 hl (by decide) rfl (fun ls hl => ?_)
        refine lv_aload_n (pc := 44) hx hb dX10_generator_44 rfl (lv_at hl 2 rfl) ?_
        refine x_get (pc := 45) X E hI inX10 0 rfl rfl 1 (by decide) tw_3_230 rfl dX10_generator_45 ?_
        refine lv_iconst (pc := 48) (v := 0) hx hb dX10_generator_48 (by decide) ?_
        obtain ⟨t8, e8, hf⟩ := q_ob hf
        refine x_iald (pc := 49) X E hI 1 rfl e8 dX10_generator_49 ?_
        refine lv_iconst (pc := 50) (v := 1) hx hb dX10_generator_50 (by decide) ?_
        refine lv_isub (pc := 51) hx hb dX10_generator_51 ?_
        refine lv_istore (pc := 52) (lv' := [(5, .int (t8 - 1)), (4, .int l1), (3, .int t7), (0, .ref (h 0)), (1, .int l1), (2, .int l2)]) hx hb dX10_generator_52 hl (by decide) rfl (fun ls hl => ?_)
        refine k_X10_generator_L54 X E (fun l4_9 l5_9 z_s_9 H locs ls hI hl hf => ?_) hI (lv_sub hl [3, 5, 2, 1, 0] rfl) hf
        refine lv_aload_n (pc := 94) hx hb dX10_generator_94 rfl (lv_at hl 0 rfl) ?_
        refine x_get (pc := 95) X E hI inX10 0 rfl rfl 1 (by decide) tw_3_230 rfl dX10_generator_95 ?_
        refine lv_bipush (pc := 98) (v := 33) hx hb dX10_generator_98 (by decide) ?_
        refine lv_iload_n (pc := 100) hx hb dX10_generator_100 rfl (lv_at hl 2 rfl) ?_
        refine lv_iadd (pc := 101) hx hb dX10_generator_101 ?_
        refine lv_iload_n (pc := 102) hx hb dX10_generator_102 rfl (lv_at hl 1 rfl) ?_
        obtain ⟨t10, e10, hf⟩ := q_ob hf
        refine x_iast (pc := 103) (w' := (mw G h z_thrown t10 z_kept z_isKept z_moveMany z_moves z_hands z_troubles z_troubleSorts z_troubleNumbers z_asked z_paint z_leasts z_isSeen z_classMany z_types z_typeCounts z_typeMany z_text z_signs z_at z_lacks z_clauses z_begun z_letters z_firsts z_seconds z_aside z_sorts z_sizes z_items)) X E hI 1 rfl e10 rfl dX10_generator_103 (fun H locs hI => ?_)
        refine lv_aload_n (pc := 104) hx hb dX10_generator_104 rfl (lv_at hl 0 rfl) ?_
        refine x_get (pc := 105) X E hI inX10 0 rfl rfl 1 (by decide) tw_3_230 rfl dX10_generator_105 ?_
        refine lv_iconst (pc := 108) (v := 2) hx hb dX10_generator_108 (by decide) ?_
        refine lv_dup2_11 (pc := 109) hx hb dX10_generator_109 rfl rfl ?_
        obtain ⟨t11, e11, hf⟩ := q_ob hf
        refine x_iald (pc := 110) X E hI 1 rfl e11 dX10_generator_110 ?_
        refine lv_iconst (pc := 111) (v := 1) hx hb dX10_generator_111 (by decide) ?_
        refine lv_iadd (pc := 112) hx hb dX10_generator_112 ?_
        obtain ⟨t12, e12, hf⟩ := q_ob hf
        refine x_iast (pc := 113) (w' := (mw G h z_thrown t12 z_kept z_isKept z_moveMany z_moves z_hands z_troubles z_troubleSorts z_troubleNumbers z_asked z_paint z_leasts z_isSeen z_classMany z_types z_typeCounts z_typeMany z_text z_signs z_at z_lacks z_clauses z_begun z_letters z_firsts z_seconds z_aside z_sorts z_sizes z_items)) X E hI 1 rfl e12 rfl dX10_generator_113 (fun H locs hI => ?_)
        refine lv_aload_n (pc := 114) hx hb dX10_generator_114 rfl (lv_at hl 0 rfl) ?_
        refine lv_aload_n (pc := 115) hx hb dX10_generator_115 rfl (lv_at hl 0 rfl) ?_
        obtain ⟨t13, e13, hf⟩ := q_ob hf
        refine x_cVs (pc := 116) (st1 := [.int t13, .ref (h 0)]) (w1 := (mw G h z_thrown t12 z_kept z_isKept z_moveMany z_moves z_hands z_troubles z_troubleSorts z_troubleNumbers z_asked z_paint z_leasts z_isSeen z_classMany z_types z_typeCounts z_typeMany z_text z_signs z_at z_lacks z_clauses z_begun z_letters z_firsts z_seconds z_aside z_sorts z_sizes z_items)) X E hI (c_X10_allGenerators l G h e13) kv_X10_126 hd_X10_allGenerators ⟨rfl, rfl⟩ (by decide) 0 rfl rfl rfl rfl hl.1 rfl (Nat.le_of_ble_eq_true rfl) dX10_generator_116 ⟨Nat.le_of_ble_eq_true rfl, Nat.le_of_ble_eq_true rfl⟩ rfl (fun H locs hI => ?_)
        obtain ⟨t14, e14, hf⟩ := q_ob hf
        refine x_cVs (pc := 119) (st1 := [.int t14.1]) (w1 := (mw G h z_thrown t12 z_kept z_isKept t14.2.1 t14.2.2.1 t14.2.2.2 z_troubles z_troubleSorts z_troubleNumbers z_asked z_paint z_leasts z_isSeen z_classMany z_types z_typeCounts z_typeMany z_text z_signs z_at z_lacks z_clauses z_begun z_letters z_firsts z_seconds z_aside z_sorts z_sizes z_items)) X E hI (c_X10_moves l G h e14) kv_X10_130 hd_X10_moves ⟨rfl, rfl⟩ (by decide) 0 rfl rfl rfl rfl hl.1 rfl (Nat.le_of_ble_eq_true rfl) dX10_generator_119 ⟨Nat.le_of_ble_eq_true rfl, Nat.le_of_ble_eq_true rfl⟩ rfl (fun H locs hI => ?_)
        refine lv_if_ne (pc := 122) (tgt := 162) hx hb dX10_generator_122 (by decide) (fun c15 => ?_) (fun c15 => ?_)
        · have hf := q_in c15 hf
          refine lv_iload_n (pc := 162) hx hb dX10_generator_162 rfl (lv_at hl 2 rfl) ?_
          obtain rfl := Option.some.inj hf
          exact x_iret X hI dX10_generator_163
        · have hf := q_ip c15 hf
          refine lv_aload_n (pc := 125) hx hb dX10_generator_125 rfl (lv_at hl 0 rfl) ?_
          refine x_get (pc := 126) X E hI inX10 0 rfl rfl 1 (by decide) tw_3_230 rfl dX10_generator_126 ?_
          refine lv_iconst (pc := 129) (v := 2) hx hb dX10_generator_129 (by decide) ?_
          refine lv_dup2_11 (pc := 130) hx hb dX10_generator_130 rfl rfl ?_
          obtain ⟨t16, e16, hf⟩ := q_ob hf
          refine x_iald (pc := 131) X E hI 1 rfl e16 dX10_generator_131 ?_
          refine lv_iconst (pc := 132) (v := 1) hx hb dX10_generator_132 (by decide) ?_
          refine lv_isub (pc := 133) hx hb dX10_generator_133 ?_
          obtain ⟨t17, e17, hf⟩ := q_ob hf
          refine x_iast (pc := 134) (w' := (mw G h z_thrown t17 z_kept z_isKept t14.2.1 t14.2.2.1 t14.2.2.2 z_troubles z_troubleSorts z_troubleNumbers z_asked z_paint z_leasts z_isSeen z_classMany z_types z_typeCounts z_typeMany z_text z_signs z_at z_lacks z_clauses z_begun z_letters z_firsts z_seconds z_aside z_sorts z_sizes z_items)) X E hI 1 rfl e17 rfl dX10_generator_134 (fun H locs hI => ?_)
          refine lv_aload_n (pc := 135) hx hb dX10_generator_135 rfl (lv_at hl 0 rfl) ?_
          refine lv_iconst (pc := 136) (v := 0) hx hb dX10_generator_136 (by decide) ?_
          refine x_put (pc := 137) (w' := (mw G h z_thrown t17 z_kept z_isKept t14.2.1 t14.2.2.1 t14.2.2.2 0 z_troubleSorts z_troubleNumbers z_asked z_paint z_leasts z_isSeen z_classMany z_types z_typeCounts z_typeMany z_text z_signs z_at z_lacks z_clauses z_begun z_letters z_firsts z_seconds z_aside z_sorts z_sizes z_items)) X E hI inX10 tyX10 tyX10_ok nmX10 0 rfl rfl 7 (by decide) tw_3_236 rfl rfl rfl (Nat.le_of_ble_eq_true rfl) rfl dX10_generator_137 (fun H locs hI => ?_)
          refine lv_aload_n (pc := 140) hx hb dX10_generator_140 rfl (lv_at hl 0 rfl) ?_
          refine lv_iconst (pc := 141) (v := 5) hx hb dX10_generator_141 (by decide) ?_
          refine lv_aload_n (pc := 142) hx hb dX10_generator_142 rfl (lv_at hl 0 rfl) ?_
          refine x_get (pc := 143) X E hI inX10 0 rfl rfl 1 (by decide) tw_3_230 rfl dX10_generator_143 ?_
          refine lv_iconst (pc := 146) (v := 2) hx hb dX10_generator_146 (by decide) ?_
          obtain ⟨t18, e18, hf⟩ := q_ob hf
          refine x_iald (pc := 147) X E hI 1 rfl e18 dX10_generator_147 ?_
          obtain ⟨t19, e19, hf⟩ := q_ob hf
          refine x_cVs (pc := 148) (st1 := []) (w1 := (mw G h z_thrown t17 z_kept z_isKept t14.2.1 t14.2.2.1 t14.2.2.2 t19.1 t19.2.1 t19.2.2 z_asked z_paint z_leasts z_isSeen z_classMany z_types z_typeCounts z_typeMany z_text z_signs z_at z_lacks z_clauses z_begun z_letters z_firsts z_seconds z_aside z_sorts z_sizes z_items)) X E hI (c_X10_tells l G h e19) kv_X10_141 hd_X10_tells ⟨rfl, rfl⟩ (by decide) 0 rfl rfl rfl rfl hl.1 rfl (Nat.le_of_ble_eq_true rfl) dX10_generator_148 ⟨Nat.le_of_ble_eq_true rfl, Nat.le_of_ble_eq_true rfl⟩ rfl (fun H locs hI => ?_)
          refine lv_aload_n (pc := 151) hx hb dX10_generator_151 rfl (lv_at hl 0 rfl) ?_
          refine lv_bipush (pc := 152) (v := 6) hx hb dX10_generator_152 (by decide) ?_
          refine lv_bipush (pc := 154) (v := 120) hx hb dX10_generator_154 (by decide) ?_
          obtain ⟨t20, e20, hf⟩ := q_ob hf
          refine x_cVs (pc := 156) (st1 := []) (w1 := (mw G h z_thrown t17 z_kept z_isKept t14.2.1 t14.2.2.1 t14.2.2.2 t20.1 t20.2.1 t20.2.2 z_asked z_paint z_leasts z_isSeen z_classMany z_types z_typeCounts z_typeMany z_text z_signs z_at z_lacks z_clauses z_begun z_letters z_firsts z_seconds z_aside z_sorts z_sizes z_items)) X E hI (c_X10_tells l G h e20) kv_X10_141 hd_X10_tells ⟨rfl, rfl⟩ (by decide) 0 rfl rfl rfl rfl hl.1 rfl (Nat.le_of_ble_eq_true rfl) dX10_generator_156 ⟨Nat.le_of_ble_eq_true rfl, Nat.le_of_ble_eq_true rfl⟩ rfl (fun H locs hI => ?_)
          refine lv_bipush (pc := 159) (v := (-15)) hx hb dX10_generator_159 (by decide) ?_
          obtain rfl := Option.some.inj hf
          exact x_iret X hI dX10_generator_161
      · have hf := q_ip c6 hf
        refine lv_bipush (pc := 31) (v := (-4)) hx hb dX10_generator_31 (by decide) ?_
        obtain rfl := Option.some.inj hf
        exact x_iret X hI dX10_generator_33
    · have hf := q_ip c4 hf
      refine lv_bipush (pc := 18) (v := (-2)) hx hb dX10_generator_18 (by decide) ?_
      obtain rfl := Option.some.inj hf
      exact x_iret X hI dX10_generator_20

abbrev rm_X10_drop : Room := { frames := 0, cells := 0, slots := 0, locals := 0 }
set_option maxHeartbeats 4000000 in
set_option maxRecDepth 100000 in
theorem k_X10_drop_L24 {p : Program} {l : Launch} {e : Env} {s : State} {m : MethodId} {args : Array Value} {below : List Frame} {meth : Method} {c : Code} {A : Nat → Prop} {G : GX} {h : Nat → Nat} {z_thrown : Int32} {z_kept : Nat → Int32} {z_isKept : Int32} {z_moveMany : Int32} {z_moves : Nat → Int32} {z_hands : Nat → Int32} {z_troubles : Int32} {z_troubleSorts : Nat → Int32} {z_troubleNumbers : Nat → Int32} {z_asked : Nat → Int32} {z_paint : Nat → Int32} {z_leasts : Nat → Int32} {z_isSeen : Nat → Int32} {z_classMany : Int32} {z_types : Nat → Int32} {z_typeCounts : Nat → Int32} {z_typeMany : Int32} {z_text : Nat → Int32} {z_signs : Int32} {z_at : Int32} {z_lacks : Int32} {z_clauses : Int32} {z_begun : Int32} {z_letters : Nat → Int32} {z_firsts : Nat → Int32} {z_seconds : Nat → Int32} {z_aside : Nat → Int32} {z_sorts : Nat → Int32} {z_sizes : Nat → Int32} {z_items : Nat → Int64} {K : Int32 → (Nat → Int32) → Option (Int32 × (Nat → Int32))} {res : Int32 × (Nat → Int32)} (X : CX RX10 cX10_drop 2 (some .int) p s m args meth c) (E : EX G A s)
    (hK : ∀ (l1 : Int32) (z_s : (Nat → Int32)) (H : Heap) (locs : List Loc) (ls : Array Slot), IN A G (mw G h z_thrown z_s z_kept z_isKept z_moveMany z_moves z_hands z_troubles z_troubleSorts z_troubleNumbers z_asked z_paint z_leasts z_isSeen z_classMany z_types z_typeCounts z_typeMany z_text z_signs z_at z_lacks z_clauses z_begun z_letters z_firsts z_seconds z_aside z_sorts z_sizes z_items) s H locs → lv_has ls 2 [(0, .ref (h 0)), (1, .int l1)] → K l1 z_s = some res → W p l e rm_X10_drop s m args below meth c H locs 0 0 (MQ below (QX G A (mw G h z_thrown res.2 z_kept z_isKept z_moveMany z_moves z_hands z_troubles z_troubleSorts z_troubleNumbers z_asked z_paint z_leasts z_isSeen z_classMany z_types z_typeCounts z_typeMany z_text z_signs z_at z_lacks z_clauses z_begun z_letters z_firsts z_seconds z_aside z_sorts z_sizes z_items) (some (.int res.1))) args s 0 0 A) (F0 m 77 ls [])) :
    ∀ {k : Nat} {l1 : Int32} {z_s : (Nat → Int32)} {H : Heap} {locs : List Loc} {ls : Array Slot}, IN A G (mw G h z_thrown z_s z_kept z_isKept z_moveMany z_moves z_hands z_troubles z_troubleSorts z_troubleNumbers z_asked z_paint z_leasts z_isSeen z_classMany z_types z_typeCounts z_typeMany z_text z_signs z_at z_lacks z_clauses z_begun z_letters z_firsts z_seconds z_aside z_sorts z_sizes z_items) s H locs → lv_has ls 2 [(0, .ref (h 0)), (1, .int l1)] → f_X10_drop_L24 K k l1 z_s = some res → W p l e rm_X10_drop s m args below meth c H locs 0 0 (MQ below (QX G A (mw G h z_thrown res.2 z_kept z_isKept z_moveMany z_moves z_hands z_troubles z_troubleSorts z_troubleNumbers z_asked z_paint z_leasts z_isSeen z_classMany z_types z_typeCounts z_typeMany z_text z_signs z_at z_lacks z_clauses z_begun z_letters z_firsts z_seconds z_aside z_sorts z_sizes z_items) (some (.int res.1))) args s 0 0 A) (F0 m 24 ls []) := by
  obtain ⟨hx, hb, hml, hown, hts, hr, hlk⟩ := id X
  intro k
  induction k with
  | zero => intro l1 z_s H locs ls hI hl hf; exact nomatch (show none = some res from hf)
  | succ k ih =>
    intro l1 z_s H locs ls hI hl hf
    rw [f_X10_drop_L24] at hf
    refine lv_iload_n (pc := 24) hx hb dX10_drop_24 rfl (lv_at hl 1 rfl) ?_
    refine lv_bipush (pc := 25) (v := 9) hx hb dX10_drop_25 (by decide) ?_
    refine lv_icmp_ge (pc := 27) (tgt := 77) hx hb dX10_drop_27 (by decide) (fun c1 => ?_) (fun c1 => ?_)
    · have hf := q_ip c1 hf
      exact hK _ _ _ _ _ hI (lv_sub hl [0, 1] rfl) hf
    · have hf := q_in c1 hf
      refine lv_aload_n (pc := 30) hx hb dX10_drop_30 rfl (lv_at hl 0 rfl) ?_
      refine x_get (pc := 31) X E hI inX10 0 rfl rfl 1 (by decide) tw_3_230 rfl dX10_drop_31 ?_
      refine lv_bipush (pc := 34) (v := 37) hx hb dX10_drop_34 (by decide) ?_
      refine lv_iload_n (pc := 36) hx hb dX10_drop_36 rfl (lv_at hl 1 rfl) ?_
      refine lv_iadd (pc := 37) hx hb dX10_drop_37 ?_
      refine lv_aload_n (pc := 38) hx hb dX10_drop_38 rfl (lv_at hl 0 rfl) ?_
      refine x_get (pc := 39) X E hI inX10 0 rfl rfl 1 (by decide) tw_3_230 rfl dX10_drop_39 ?_
      refine lv_bipush (pc := 42) (v := 37) hx hb dX10_drop_42 (by decide) ?_
      refine lv_iload_n (pc := 44) hx hb dX10_drop_44 rfl (lv_at hl 1 rfl) ?_
      refine lv_iadd (pc := 45) hx hb dX10_drop_45 ?_
      obtain ⟨t2, e2, hf⟩ := q_ob hf
      refine x_iald (pc := 46) X E hI 1 rfl e2 dX10_drop_46 ?_
      refine lv_aload_n (pc := 47) hx hb dX10_drop_47 rfl (lv_at hl 0 rfl) ?_
      refine x_get (pc := 48) X E hI inX10 0 rfl rfl 1 (by decide) tw_3_230 rfl dX10_drop_48 ?_
      refine lv_iconst (pc := 51) (v := 2) hx hb dX10_drop_51 (by decide) ?_
      obtain ⟨t3, e3, hf⟩ := q_ob hf
      refine x_iald (pc := 52) X E hI 1 rfl e3 dX10_drop_52 ?_
      refine lv_icmp_ne (pc := 53) (tgt := 61) hx hb dX10_drop_53 (by decide) (fun c4 => ?_) (fun c4 => ?_)
      · have hf := q_in c4 hf
        refine lv_aload_n (pc := 61) hx hb dX10_drop_61 rfl (lv_at hl 0 rfl) ?_
        refine x_get (pc := 62) X E hI inX10 0 rfl rfl 1 (by decide) tw_3_230 rfl dX10_drop_62 ?_
        refine lv_bipush (pc := 65) (v := 37) hx hb dX10_drop_65 (by decide) ?_
        refine lv_iload_n (pc := 67) hx hb dX10_drop_67 rfl (lv_at hl 1 rfl) ?_
        refine lv_iadd (pc := 68) hx hb dX10_drop_68 ?_
        obtain ⟨t5, e5, hf⟩ := q_ob hf
        refine x_iald (pc := 69) X E hI 1 rfl e5 dX10_drop_69 ?_
        obtain ⟨t6, e6, hf⟩ := q_ob hf
        refine x_iast (pc := 70) (w' := (mw G h z_thrown t6 z_kept z_isKept z_moveMany z_moves z_hands z_troubles z_troubleSorts z_troubleNumbers z_asked z_paint z_leasts z_isSeen z_classMany z_types z_typeCounts z_typeMany z_text z_signs z_at z_lacks z_clauses z_begun z_letters z_firsts z_seconds z_aside z_sorts z_sizes z_items)) X E hI 1 rfl e6 rfl dX10_drop_70 (fun H locs hI => ?_)
        refine lv_iinc (pc := 71) (v := l1 + 1) (lv' := [(1, .int (l1 + 1)), (0, .ref (h 0))]) hx hb dX10_drop_71 hl (k := 1) rfl rfl (by decide) rfl (fun ls hl => ?_)
        refine lv_goto (pc := 74) (tgt := 24) hx hb dX10_drop_74 (by decide) ?_
        exact ih hI (lv_sub hl [1, 0] rfl) hf
      · have hf := q_ip c4 hf
        refine lv_bipush (pc := 56) (v := (-5)) hx hb dX10_drop_56 (by decide) ?_
        refine lv_goto (pc := 58) (tgt := 70) hx hb dX10_drop_58 (by decide) ?_
        obtain ⟨t7, e7, hf⟩ := q_ob hf
        refine x_iast (pc := 70) (w' := (mw G h z_thrown t7 z_kept z_isKept z_moveMany z_moves z_hands z_troubles z_troubleSorts z_troubleNumbers z_asked z_paint z_leasts z_isSeen z_classMany z_types z_typeCounts z_typeMany z_text z_signs z_at z_lacks z_clauses z_begun z_letters z_firsts z_seconds z_aside z_sorts z_sizes z_items)) X E hI 1 rfl e7 rfl dX10_drop_70 (fun H locs hI => ?_)
        refine lv_iinc (pc := 71) (v := l1 + 1) (lv' := [(1, .int (l1 + 1)), (0, .ref (h 0))]) hx hb dX10_drop_71 hl (k := 1) rfl rfl (by decide) rfl (fun ls hl => ?_)
        refine lv_goto (pc := 74) (tgt := 24) hx hb dX10_drop_74 (by decide) ?_
        exact ih hI (lv_sub hl [1, 0] rfl) hf

set_option maxHeartbeats 4000000 in
set_option maxRecDepth 100000 in
theorem c_X10_drop (l : Launch) (G : GX) (h : Nat → Nat) {z_s : Nat → Int32} {z_thrown : Int32} {z_kept : Nat → Int32} {z_isKept : Int32} {z_moveMany : Int32} {z_moves : Nat → Int32} {z_hands : Nat → Int32} {z_troubles : Int32} {z_troubleSorts : Nat → Int32} {z_troubleNumbers : Nat → Int32} {z_asked : Nat → Int32} {z_paint : Nat → Int32} {z_leasts : Nat → Int32} {z_isSeen : Nat → Int32} {z_classMany : Int32} {z_types : Nat → Int32} {z_typeCounts : Nat → Int32} {z_typeMany : Int32} {z_text : Nat → Int32} {z_signs : Int32} {z_at : Int32} {z_lacks : Int32} {z_clauses : Int32} {z_begun : Int32} {z_letters : Nat → Int32} {z_firsts : Nat → Int32} {z_seconds : Nat → Int32} {z_aside : Nat → Int32} {z_sorts : Nat → Int32} {z_sizes : Nat → Int32} {z_items : Nat → Int64} {res : Int32 × (Nat → Int32)} (hf : f_X10_drop z_s = some res) : MX l yX10_drop cX10_drop 2 (some .int) rm_X10_drop G (mw G h z_thrown z_s z_kept z_isKept z_moveMany z_moves z_hands z_troubles z_troubleSorts z_troubleNumbers z_asked z_paint z_leasts z_isSeen z_classMany z_types z_typeCounts z_typeMany z_text z_signs z_at z_lacks z_clauses z_begun z_letters z_firsts z_seconds z_aside z_sorts z_sizes z_items) [.ref (h 0)] (mw G h z_thrown res.2 z_kept z_isKept z_moveMany z_moves z_hands z_troubles z_troubleSorts z_troubleNumbers z_asked z_paint z_leasts z_isSeen z_classMany z_types z_typeCounts z_typeMany z_text z_signs z_at z_lacks z_clauses z_begun z_letters z_firsts z_seconds z_aside z_sorts z_sizes z_items) (some (.int res.1)) 0 0 := by
  refine MX.of (plainFor_of_name (by decide)) (Nat.le_of_ble_eq_true rfl) ?_
  intro p e s m below meth c A X E hI ls hl
  obtain ⟨hx, hb, hml, hown, hts, hr, hlk⟩ := id X
  have hl : lv_has ls 2 [(0, .ref (h 0))] := hl
  unfold f_X10_drop at hf
  refine lv_aload_n (pc := 0) hx hb dX10_drop_0 rfl (lv_at hl 0 rfl) ?_
  refine x_get (pc := 1) X E hI inX10 0 rfl rfl 1 (by decide) tw_3_230 rfl dX10_drop_1 ?_
  refine lv_iconst (pc := 4) (v := 2) hx hb dX10_drop_4 (by decide) ?_
  obtain ⟨t1, e1, hf⟩ := q_ob hf
  refine x_iald (pc := 5) X E hI 1 rfl e1 dX10_drop_5 ?_
  refine lv_if_ne (pc := 6) (tgt := 12) hx hb dX10_drop_6 (by decide) (fun c2 => ?_) (fun c2 => ?_)
  · have hf := q_in c2 hf
    refine lv_aload_n (pc := 12) hx hb dX10_drop_12 rfl (lv_at hl 0 rfl) ?_
    refine x_get (pc := 13) X E hI inX10 0 rfl rfl 1 (by decide) tw_3_230 rfl dX10_drop_13 ?_
    refine lv_iconst (pc := 16) (v := 2) hx hb dX10_drop_16 (by decide) ?_
    refine lv_dup2_11 (pc := 17) hx hb dX10_drop_17 rfl rfl ?_
    obtain ⟨t3, e3, hf⟩ := q_ob hf
    refine x_iald (pc := 18) X E hI 1 rfl e3 dX10_drop_18 ?_
    refine lv_iconst (pc := 19) (v := 1) hx hb dX10_drop_19 (by decide) ?_
    refine lv_isub (pc := 20) hx hb dX10_drop_20 ?_
    obtain ⟨t4, e4, hf⟩ := q_ob hf
    refine x_iast (pc := 21) (w' := (mw G h z_thrown t4 z_kept z_isKept z_moveMany z_moves z_hands z_troubles z_troubleSorts z_troubleNumbers z_asked z_paint z_leasts z_isSeen z_classMany z_types z_typeCounts z_typeMany z_text z_signs z_at z_lacks z_clauses z_begun z_letters z_firsts z_seconds z_aside z_sorts z_sizes z_items)) X E hI 1 rfl e4 rfl dX10_drop_21 (fun H locs hI => ?_)
    refine lv_iconst (pc := 22) (v := 0) hx hb dX10_drop_22 (by decide) ?_
    refine lv_istore_n (pc := 23) (lv' := [(1, .int 0), (0, .ref (h 0))]) hx hb dX10_drop_23 rfl hl (by decide) rfl (fun ls hl => ?_)
    refine k_X10_drop_L24 X E (fun l1_5 z_s_5 H locs ls hI hl hf => ?_) hI (lv_sub hl [1, 0] rfl) hf
    refine lv_aload_n (pc := 77) hx hb dX10_drop_77 rfl (lv_at hl 0 rfl) ?_
    refine x_get (pc := 78) X E hI inX10 0 rfl rfl 1 (by decide) tw_3_230 rfl dX10_drop_78 ?_
    refine lv_iconst (pc := 81) (v := 2) hx hb dX10_drop_81 (by decide) ?_
    obtain ⟨t6, e6, hf⟩ := q_ob hf
    refine x_iald (pc := 82) X E hI 1 rfl e6 dX10_drop_82 ?_
    obtain rfl := Option.some.inj hf
    exact x_iret X hI dX10_drop_83
  · have hf := q_ip c2 hf
    refine lv_bipush (pc := 9) (v := (-3)) hx hb dX10_drop_9 (by decide) ?_
    obtain rfl := Option.some.inj hf
    exact x_iret X hI dX10_drop_11

abbrev rm_X10_rowOf : Room := { frames := 0, cells := 0, slots := 0, locals := 0 }
set_option maxHeartbeats 4000000 in
set_option maxRecDepth 100000 in
theorem k_X10_rowOf_L4 {p : Program} {l : Launch} {e : Env} {s : State} {m : MethodId} {args : Array Value} {below : List Frame} {meth : Method} {c : Code} {A : Nat → Prop} {G : GX} {h : Nat → Nat} {l1 : Int32} {z_thrown : Int32} {z_s : Nat → Int32} {z_kept : Nat → Int32} {z_isKept : Int32} {z_moveMany : Int32} {z_moves : Nat → Int32} {z_hands : Nat → Int32} {z_troubles : Int32} {z_troubleSorts : Nat → Int32} {z_troubleNumbers : Nat → Int32} {z_asked : Nat → Int32} {z_paint : Nat → Int32} {z_leasts : Nat → Int32} {z_isSeen : Nat → Int32} {z_classMany : Int32} {z_types : Nat → Int32} {z_typeCounts : Nat → Int32} {z_typeMany : Int32} {z_text : Nat → Int32} {z_signs : Int32} {z_at : Int32} {z_lacks : Int32} {z_clauses : Int32} {z_begun : Int32} {z_letters : Nat → Int32} {z_firsts : Nat → Int32} {z_seconds : Nat → Int32} {z_aside : Nat → Int32} {z_sorts : Nat → Int32} {z_sizes : Nat → Int32} {z_items : Nat → Int64} {K : Int32 → Int32 → Option (Int32)} {res : Int32} (X : CX RX10 cX10_rowOf 4 (some .int) p s m args meth c) (E : EX G A s)
    (hK : ∀ (l2 : Int32) (l3 : Int32) (H : Heap) (locs : List Loc) (ls : Array Slot), IN A G (mw G h z_thrown z_s z_kept z_isKept z_moveMany z_moves z_hands z_troubles z_troubleSorts z_troubleNumbers z_asked z_paint z_leasts z_isSeen z_classMany z_types z_typeCounts z_typeMany z_text z_signs z_at z_lacks z_clauses z_begun z_letters z_firsts z_seconds z_aside z_sorts z_sizes z_items) s H locs → lv_has ls 4 [(0, .ref (h 0)), (1, .int l1), (2, .int l2), (3, .int l3)] → K l2 l3 = some res → W p l e rm_X10_rowOf s m args below meth c H locs 0 0 (MQ below (QX G A (mw G h z_thrown z_s z_kept z_isKept z_moveMany z_moves z_hands z_troubles z_troubleSorts z_troubleNumbers z_asked z_paint z_leasts z_isSeen z_classMany z_types z_typeCounts z_typeMany z_text z_signs z_at z_lacks z_clauses z_begun z_letters z_firsts z_seconds z_aside z_sorts z_sizes z_items) (some (.int res))) args s 0 0 A) (F0 m 42 ls [])) :
    ∀ {k : Nat} {l2 : Int32} {l3 : Int32} {H : Heap} {locs : List Loc} {ls : Array Slot}, IN A G (mw G h z_thrown z_s z_kept z_isKept z_moveMany z_moves z_hands z_troubles z_troubleSorts z_troubleNumbers z_asked z_paint z_leasts z_isSeen z_classMany z_types z_typeCounts z_typeMany z_text z_signs z_at z_lacks z_clauses z_begun z_letters z_firsts z_seconds z_aside z_sorts z_sizes z_items) s H locs → lv_has ls 4 [(0, .ref (h 0)), (1, .int l1), (2, .int l2), (3, .int l3)] → f_X10_rowOf_L4 l1 z_s K k l2 l3 = some res → W p l e rm_X10_rowOf s m args below meth c H locs 0 0 (MQ below (QX G A (mw G h z_thrown z_s z_kept z_isKept z_moveMany z_moves z_hands z_troubles z_troubleSorts z_troubleNumbers z_asked z_paint z_leasts z_isSeen z_classMany z_types z_typeCounts z_typeMany z_text z_signs z_at z_lacks z_clauses z_begun z_letters z_firsts z_seconds z_aside z_sorts z_sizes z_items) (some (.int res))) args s 0 0 A) (F0 m 4 ls []) := by
  obtain ⟨hx, hb, hml, hown, hts, hr, hlk⟩ := id X
  intro k
  induction k with
  | zero => intro l2 l3 H locs ls hI hl hf; exact nomatch (show none = some res from hf)
  | succ k ih =>
    intro l2 l3 H locs ls hI hl hf
    rw [f_X10_rowOf_L4] at hf
    refine lv_iload_n (pc := 4) hx hb dX10_rowOf_4 rfl (lv_at hl 3 rfl) ?_
    refine lv_aload_n (pc := 5) hx hb dX10_rowOf_5 rfl (lv_at hl 0 rfl) ?_
    refine x_get (pc := 6) X E hI inX10 0 rfl rfl 1 (by decide) tw_3_230 rfl dX10_rowOf_6 ?_
    refine lv_iconst (pc := 9) (v := 0) hx hb dX10_rowOf_9 (by decide) ?_
    obtain ⟨t1, e1, hf⟩ := q_ob hf
    refine x_iald (pc := 10) X E hI 1 rfl e1 dX10_rowOf_10 ?_
    refine lv_icmp_ge (pc := 11) (tgt := 42) hx hb dX10_rowOf_11 (by decide) (fun c2 => ?_) (fun c2 => ?_)
    · have hf := q_ip c2 hf
      exact hK _ _ _ _ _ hI (lv_sub hl [0, 1, 2, 3] rfl) hf
    · have hf := q_in c2 hf
      refine lv_bipush (pc := 14) (v := 10) hx hb dX10_rowOf_14 (by decide) ?_
      refine lv_iload_n (pc := 16) hx hb dX10_rowOf_16 rfl (lv_at hl 2 rfl) ?_
      refine lv_imul (pc := 17) hx hb dX10_rowOf_17 ?_
      refine lv_aload_n (pc := 18) hx hb dX10_rowOf_18 rfl (lv_at hl 0 rfl) ?_
      refine x_get (pc := 19) X E hI inX10 0 rfl rfl 1 (by decide) tw_3_230 rfl dX10_rowOf_19 ?_
      refine lv_bipush (pc := 22) (v := 9) hx hb dX10_rowOf_22 (by decide) ?_
      refine lv_bipush (pc := 24) (v := 6) hx hb dX10_rowOf_24 (by decide) ?_
      refine lv_iload_n (pc := 26) hx hb dX10_rowOf_26 rfl (lv_at hl 1 rfl) ?_
      refine lv_imul (pc := 27) hx hb dX10_rowOf_27 ?_
      refine lv_iadd (pc := 28) hx hb dX10_rowOf_28 ?_
      refine lv_iload_n (pc := 29) hx hb dX10_rowOf_29 rfl (lv_at hl 3 rfl) ?_
      refine lv_iadd (pc := 30) hx hb dX10_rowOf_30 ?_
      obtain ⟨t3, e3, hf⟩ := q_ob hf
      refine x_iald (pc := 31) X E hI 1 rfl e3 dX10_rowOf_31 ?_
      refine lv_iadd (pc := 32) hx hb dX10_rowOf_32 ?_
      refine lv_iconst (pc := 33) (v := 1) hx hb dX10_rowOf_33 (by decide) ?_
      refine lv_iadd (pc := 34) hx hb dX10_rowOf_34 ?_
      refine lv_istore_n (pc := 35) (lv' := [(2, .int (((10 * l2) + t3) + 1)), (0, .ref (h 0)), (1, .int l1), (3, .int l3)]) hx hb dX10_rowOf_35 rfl hl (by decide) rfl (fun ls hl => ?_)
      refine lv_iinc (pc := 36) (v := l3 + 1) (lv' := [(3, .int (l3 + 1)), (2, .int (((10 * l2) + t3) + 1)), (0, .ref (h 0)), (1, .int l1)]) hx hb dX10_rowOf_36 hl (k := 3) rfl rfl (by decide) rfl (fun ls hl => ?_)
      refine lv_goto (pc := 39) (tgt := 4) hx hb dX10_rowOf_39 (by decide) ?_
      exact ih hI (lv_sub hl [2, 3, 1, 0] rfl) hf

set_option maxHeartbeats 4000000 in
set_option maxRecDepth 100000 in
theorem c_X10_rowOf (l : Launch) (G : GX) (h : Nat → Nat) {l1 : Int32} {z_s : Nat → Int32} {z_thrown : Int32} {z_kept : Nat → Int32} {z_isKept : Int32} {z_moveMany : Int32} {z_moves : Nat → Int32} {z_hands : Nat → Int32} {z_troubles : Int32} {z_troubleSorts : Nat → Int32} {z_troubleNumbers : Nat → Int32} {z_asked : Nat → Int32} {z_paint : Nat → Int32} {z_leasts : Nat → Int32} {z_isSeen : Nat → Int32} {z_classMany : Int32} {z_types : Nat → Int32} {z_typeCounts : Nat → Int32} {z_typeMany : Int32} {z_text : Nat → Int32} {z_signs : Int32} {z_at : Int32} {z_lacks : Int32} {z_clauses : Int32} {z_begun : Int32} {z_letters : Nat → Int32} {z_firsts : Nat → Int32} {z_seconds : Nat → Int32} {z_aside : Nat → Int32} {z_sorts : Nat → Int32} {z_sizes : Nat → Int32} {z_items : Nat → Int64} {res : Int32} (hf : f_X10_rowOf l1 z_s = some res) : MX l yX10_rowOf cX10_rowOf 4 (some .int) rm_X10_rowOf G (mw G h z_thrown z_s z_kept z_isKept z_moveMany z_moves z_hands z_troubles z_troubleSorts z_troubleNumbers z_asked z_paint z_leasts z_isSeen z_classMany z_types z_typeCounts z_typeMany z_text z_signs z_at z_lacks z_clauses z_begun z_letters z_firsts z_seconds z_aside z_sorts z_sizes z_items) [.ref (h 0), .int l1] (mw G h z_thrown z_s z_kept z_isKept z_moveMany z_moves z_hands z_troubles z_troubleSorts z_troubleNumbers z_asked z_paint z_leasts z_isSeen z_classMany z_types z_typeCounts z_typeMany z_text z_signs z_at z_lacks z_clauses z_begun z_letters z_firsts z_seconds z_aside z_sorts z_sizes z_items) (some (.int res)) 0 0 := by
  refine MX.of (plainFor_of_name (by decide)) (Nat.le_of_ble_eq_true rfl) ?_
  intro p e s m below meth c A X E hI ls hl
  obtain ⟨hx, hb, hml, hown, hts, hr, hlk⟩ := id X
  have hl : lv_has ls 4 [(0, .ref (h 0)), (1, .int l1)] := hl
  unfold f_X10_rowOf at hf
  refine lv_iconst (pc := 0) (v := 0) hx hb dX10_rowOf_0 (by decide) ?_
  refine lv_istore_n (pc := 1) (lv' := [(2, .int 0), (0, .ref (h 0)), (1, .int l1)]) hx hb dX10_rowOf_1 rfl hl (by decide) rfl (fun ls hl => ?_)
  refine lv_iconst (pc := 2) (v := 0) hx hb dX10_rowOf_2 (by decide) ?_
  refine lv_istore_n (pc := 3) (lv' := [(3, .int 0), (2, .int 0), (0, .ref (h 0)), (1, .int l1)]) hx hb dX10_rowOf_3 rfl hl (by decide) rfl (fun ls hl => ?_)
  refine k_X10_rowOf_L4 X E (fun l2_1 l3_1 H locs ls hI hl hf => ?_) hI (lv_sub hl [2, 3, 1, 0] rfl) hf
  refine lv_iload_n (pc := 42) hx hb dX10_rowOf_42 rfl (lv_at hl 2 rfl) ?_
  obtain rfl := Option.some.inj hf
  exact x_iret X hI dX10_rowOf_43

abbrev rm_X10_cycles : Room := { frames := 1, cells := 0, slots := 0, locals := 21 }
set_option maxHeartbeats 4000000 in
set_option maxRecDepth 100000 in
theorem k_X10_cycles_L25 {p : Program} {l : Launch} {e : Env} {s : State} {m : MethodId} {args : Array Value} {below : List Frame} {meth : Method} {c : Code} {A : Nat → Prop} {G : GX} {h : Nat → Nat} {l1 : Int32} {l3 : Int32} {l4 : Int32} {z_thrown : Int32} {z_s : Nat → Int32} {z_kept : Nat → Int32} {z_isKept : Int32} {z_moveMany : Int32} {z_moves : Nat → Int32} {z_hands : Nat → Int32} {z_troubles : Int32} {z_troubleSorts : Nat → Int32} {z_troubleNumbers : Nat → Int32} {z_asked : Nat → Int32} {z_paint : Nat → Int32} {z_leasts : Nat → Int32} {z_isSeen : Nat → Int32} {z_classMany : Int32} {z_types : Nat → Int32} {z_typeCounts : Nat → Int32} {z_typeMany : Int32} {z_text : Nat → Int32} {z_signs : Int32} {z_at : Int32} {z_lacks : Int32} {z_clauses : Int32} {z_begun : Int32} {z_letters : Nat → Int32} {z_firsts : Nat → Int32} {z_seconds : Nat → Int32} {z_aside : Nat → Int32} {z_sorts : Nat → Int32} {z_sizes : Nat → Int32} {z_items : Nat → Int64} {K : Int32 → Int32 → Int32 → Option (Int32)} {res : Int32} (X : CX RX10 cX10_cycles 7 (some .int) p s m args meth c) (E : EX G A s)
    (hK : ∀ (l2 : Int32) (l5 : Int32) (l6 : Int32) (H : Heap) (locs : List Loc) (ls : Array Slot), IN A G (mw G h z_thrown z_s z_kept z_isKept z_moveMany z_moves z_hands z_troubles z_troubleSorts z_troubleNumbers z_asked z_paint z_leasts z_isSeen z_classMany z_types z_typeCounts z_typeMany z_text z_signs z_at z_lacks z_clauses z_begun z_letters z_firsts z_seconds z_aside z_sorts z_sizes z_items) s H locs → lv_has ls 7 [(0, .ref (h 0)), (1, .int l1), (2, .int l2), (3, .int l3), (4, .int l4), (5, .int l5), (6, .int l6)] → K l2 l5 l6 = some res → W p l e rm_X10_cycles s m args below meth c H locs 0 0 (MQ below (QX G A (mw G h z_thrown z_s z_kept z_isKept z_moveMany z_moves z_hands z_troubles z_troubleSorts z_troubleNumbers z_asked z_paint z_leasts z_isSeen z_classMany z_types z_typeCounts z_typeMany z_text z_signs z_at z_lacks z_clauses z_begun z_letters z_firsts z_seconds z_aside z_sorts z_sizes z_items) (some (.int res))) args s 0 0 A) (F0 m 56 ls [])) :
    ∀ {k : Nat} {l2 : Int32} {l5 : Int32} {l6 : Int32} {H : Heap} {locs : List Loc} {ls : Array Slot}, IN A G (mw G h z_thrown z_s z_kept z_isKept z_moveMany z_moves z_hands z_troubles z_troubleSorts z_troubleNumbers z_asked z_paint z_leasts z_isSeen z_classMany z_types z_typeCounts z_typeMany z_text z_signs z_at z_lacks z_clauses z_begun z_letters z_firsts z_seconds z_aside z_sorts z_sizes z_items) s H locs → lv_has ls 7 [(0, .ref (h 0)), (1, .int l1), (2, .int l2), (3, .int l3), (4, .int l4), (5, .int l5), (6, .int l6)] → f_X10_cycles_L25 l1 l3 l4 z_asked K k l2 l5 l6 = some res → W p l e rm_X10_cycles s m args below meth c H locs 0 0 (MQ below (QX G A (mw G h z_thrown z_s z_kept z_isKept z_moveMany z_moves z_hands z_troubles z_troubleSorts z_troubleNumbers z_asked z_paint z_leasts z_isSeen z_classMany z_types z_typeCounts z_typeMany z_text z_signs z_at z_lacks z_clauses z_begun z_letters z_firsts z_seconds z_aside z_sorts z_sizes z_items) (some (.int res))) args s 0 0 A) (F0 m 25 ls []) := by
  obtain ⟨hx, hb, hml, hown, hts, hr, hlk⟩ := id X
  intro k
  induction k with
  | zero => intro l2 l5 l6 H locs ls hI hl hf; exact nomatch (show none = some res from hf)
  | succ k ih =>
    intro l2 l5 l6 H locs ls hI hl hf
    rw [f_X10_cycles_L25] at hf
    refine lv_iload_n (pc := 25) hx hb dX10_cycles_25 rfl (lv_at hl 2 rfl) ?_
    refine lv_iload (pc := 26) hx hb dX10_cycles_26 (lv_at hl 6 rfl) ?_
    obtain ⟨t1, e1, hf⟩ := q_ob hf
    refine x_cSn (pc := 28) (st1 := [.int t1]) X E hI (c_X10_has l G e1) ks_X10_110 hd_X10_has ⟨rfl, rfl⟩ (by decide) rfl hl.1 rfl (Nat.le_of_ble_eq_true rfl) dX10_cycles_28 ⟨Nat.le_of_ble_eq_true rfl, Nat.le_of_ble_eq_true rfl⟩ rfl (fun H locs hI => ?_)
    refine lv_if_ne (pc := 31) (tgt := 56) hx hb dX10_cycles_31 (by decide) (fun c2 => ?_) (fun c2 => ?_)
    · have hf := q_in c2 hf
      exact hK _ _ _ _ _ _ hI (lv_sub hl [0, 1, 2, 3, 4, 5, 6] rfl) hf
    · have hf := q_ip c2 hf
      refine lv_iload_n (pc := 34) hx hb dX10_cycles_34 rfl (lv_at hl 2 rfl) ?_
      refine lv_iconst (pc := 35) (v := 1) hx hb dX10_cycles_35 (by decide) ?_
      refine lv_iload (pc := 36) hx hb dX10_cycles_36 (lv_at hl 6 rfl) ?_
      refine lv_ishl (pc := 38) hx hb dX10_cycles_38 ?_
      refine lv_ior (pc := 39) hx hb dX10_cycles_39 ?_
      refine lv_istore_n (pc := 40) (lv' := [(2, .int (l2 ||| (1 <<< (l6 &&& 31)))), (0, .ref (h 0)), (1, .int l1), (3, .int l3), (4, .int l4), (5, .int l5), (6, .int l6)]) hx hb dX10_cycles_40 rfl hl (by decide) rfl (fun ls hl => ?_)
      refine lv_iinc (pc := 41) (v := l5 + 1) (lv' := [(5, .int (l5 + 1)), (2, .int (l2 ||| (1 <<< (l6 &&& 31)))), (0, .ref (h 0)), (1, .int l1), (3, .int l3), (4, .int l4), (6, .int l6)]) hx hb dX10_cycles_41 hl (k := 5) rfl rfl (by decide) rfl (fun ls hl => ?_)
      refine lv_aload_n (pc := 44) hx hb dX10_cycles_44 rfl (lv_at hl 2 rfl) ?_
      refine x_get (pc := 45) X E hI inX10 0 rfl rfl 10 (by decide) tw_3_239 rfl dX10_cycles_45 ?_
      refine lv_iload (pc := 48) hx hb dX10_cycles_48 (lv_at hl 6 rfl) ?_
      obtain ⟨t3, e3, hf⟩ := q_ob hf
      refine x_iald (pc := 50) X E hI 7 rfl e3 dX10_cycles_50 ?_
      refine lv_istore (pc := 51) (lv' := [(6, .int t3), (5, .int (l5 + 1)), (2, .int (l2 ||| (1 <<< (l6 &&& 31)))), (0, .ref (h 0)), (1, .int l1), (3, .int l3), (4, .int l4)]) hx hb dX10_cycles_51 hl (by decide) rfl (fun ls hl => ?_)
      refine lv_goto (pc := 53) (tgt := 25) hx hb dX10_cycles_53 (by decide) ?_
      exact ih hI (lv_sub hl [3, 4, 2, 5, 6, 1, 0] rfl) hf

set_option maxHeartbeats 4000000 in
set_option maxRecDepth 100000 in
theorem k_X10_cycles_L7 {p : Program} {l : Launch} {e : Env} {s : State} {m : MethodId} {args : Array Value} {below : List Frame} {meth : Method} {c : Code} {A : Nat → Prop} {G : GX} {h : Nat → Nat} {l1 : Int32} {z_thrown : Int32} {z_s : Nat → Int32} {z_kept : Nat → Int32} {z_isKept : Int32} {z_moveMany : Int32} {z_moves : Nat → Int32} {z_hands : Nat → Int32} {z_troubles : Int32} {z_troubleSorts : Nat → Int32} {z_troubleNumbers : Nat → Int32} {z_asked : Nat → Int32} {z_paint : Nat → Int32} {z_leasts : Nat → Int32} {z_isSeen : Nat → Int32} {z_classMany : Int32} {z_types : Nat → Int32} {z_typeCounts : Nat → Int32} {z_typeMany : Int32} {z_text : Nat → Int32} {z_signs : Int32} {z_at : Int32} {z_lacks : Int32} {z_clauses : Int32} {z_begun : Int32} {z_letters : Nat → Int32} {z_firsts : Nat → Int32} {z_seconds : Nat → Int32} {z_aside : Nat → Int32} {z_sorts : Nat → Int32} {z_sizes : Nat → Int32} {z_items : Nat → Int64} {K : Int32 → Int32 → Int32 → Option (Int32)} {res : Int32} (X : CX RX10 cX10_cycles 7 (some .int) p s m args meth c) (E : EX G A s)
    (hK : ∀ (l2 : Int32) (l3 : Int32) (l4 : Int32) (H : Heap) (locs : List Loc) (ls : Array Slot), IN A G (mw G h z_thrown z_s z_kept z_isKept z_moveMany z_moves z_hands z_troubles z_troubleSorts z_troubleNumbers z_asked z_paint z_leasts z_isSeen z_classMany z_types z_typeCounts z_typeMany z_text z_signs z_at z_lacks z_clauses z_begun z_letters z_firsts z_seconds z_aside z_sorts z_sizes z_items) s H locs → lv_has ls 7 [(0, .ref (h 0)), (1, .int l1), (2, .int l2), (3, .int l3), (4, .int l4)] → K l2 l3 l4 = some res → W p l e rm_X10_cycles s m args below meth c H locs 0 0 (MQ below (QX G A (mw G h z_thrown z_s z_kept z_isKept z_moveMany z_moves z_hands z_troubles z_troubleSorts z_troubleNumbers z_asked z_paint z_leasts z_isSeen z_classMany z_types z_typeCounts z_typeMany z_text z_signs z_at z_lacks z_clauses z_begun z_letters z_firsts z_seconds z_aside z_sorts z_sizes z_items) (some (.int res))) args s 0 0 A) (F0 m 85 ls [])) :
    ∀ {k : Nat} {l2 : Int32} {l3 : Int32} {l4 : Int32} {H : Heap} {locs : List Loc} {ls : Array Slot}, IN A G (mw G h z_thrown z_s z_kept z_isKept z_moveMany z_moves z_hands z_troubles z_troubleSorts z_troubleNumbers z_asked z_paint z_leasts z_isSeen z_classMany z_types z_typeCounts z_typeMany z_text z_signs z_at z_lacks z_clauses z_begun z_letters z_firsts z_seconds z_aside z_sorts z_sizes z_items) s H locs → lv_has ls 7 [(0, .ref (h 0)), (1, .int l1), (2, .int l2), (3, .int l3), (4, .int l4)] → f_X10_cycles_L7 l1 z_s z_asked K k l2 l3 l4 = some res → W p l e rm_X10_cycles s m args below meth c H locs 0 0 (MQ below (QX G A (mw G h z_thrown z_s z_kept z_isKept z_moveMany z_moves z_hands z_troubles z_troubleSorts z_troubleNumbers z_asked z_paint z_leasts z_isSeen z_classMany z_types z_typeCounts z_typeMany z_text z_signs z_at z_lacks z_clauses z_begun z_letters z_firsts z_seconds z_aside z_sorts z_sizes z_items) (some (.int res))) args s 0 0 A) (F0 m 7 ls []) := by
  obtain ⟨hx, hb, hml, hown, hts, hr, hlk⟩ := id X
  intro k
  induction k with
  | zero => intro l2 l3 l4 H locs ls hI hl hf; exact nomatch (show none = some res from hf)
  | succ k ih =>
    intro l2 l3 l4 H locs ls hI hl hf
    rw [f_X10_cycles_L7] at hf
    refine lv_iload (pc := 7) hx hb dX10_cycles_7 (lv_at hl 4 rfl) ?_
    refine lv_aload_n (pc := 9) hx hb dX10_cycles_9 rfl (lv_at hl 0 rfl) ?_
    refine x_get (pc := 10) X E hI inX10 0 rfl rfl 1 (by decide) tw_3_230 rfl dX10_cycles_10 ?_
    refine lv_iconst (pc := 13) (v := 0) hx hb dX10_cycles_13 (by decide) ?_
    obtain ⟨t1, e1, hf⟩ := q_ob hf
    refine x_iald (pc := 14) X E hI 1 rfl e1 dX10_cycles_14 ?_
    refine lv_icmp_ge (pc := 15) (tgt := 85) hx hb dX10_cycles_15 (by decide) (fun c2 => ?_) (fun c2 => ?_)
    · have hf := q_ip c2 hf
      exact hK _ _ _ _ _ _ hI (lv_sub hl [0, 1, 2, 3, 4] rfl) hf
    · have hf := q_in c2 hf
      refine lv_iconst (pc := 18) (v := 0) hx hb dX10_cycles_18 (by decide) ?_
      refine lv_istore (pc := 19) (lv' := [(5, .int 0), (0, .ref (h 0)), (1, .int l1), (2, .int l2), (3, .int l3), (4, .int l4)]) hx hb dX10_cycles_19 hl (by decide) rfl (fun ls hl => ?_)
      refine lv_iload (pc := 21) hx hb dX10_cycles_21 (lv_at hl 5 rfl) ?_
      refine lv_istore (pc := 23) (lv' := [(6, .int l4), (5, .int 0), (0, .ref (h 0)), (1, .int l1), (2, .int l2), (3, .int l3), (4, .int l4)]) hx hb dX10_cycles_23 hl (by decide) rfl (fun ls hl => ?_)
      refine k_X10_cycles_L25 X E (fun l2_3 l5_3 l6_3 H locs ls hI hl hf => ?_) hI (lv_sub hl [2, 3, 4, 5, 6, 1, 0] rfl) hf
      refine lv_iload_n (pc := 56) hx hb dX10_cycles_56 rfl (lv_at hl 3 rfl) ?_
      refine lv_iload (pc := 57) hx hb dX10_cycles_57 (lv_at hl 5 rfl) ?_
      refine lv_if_le (pc := 59) (tgt := 76) hx hb dX10_cycles_59 (by decide) (fun c4 => ?_) (fun c4 => ?_)
      · have hf := q_ip c4 hf
        refine lv_iconst (pc := 76) (v := 0) hx hb dX10_cycles_76 (by decide) ?_
        refine lv_iadd (pc := 77) hx hb dX10_cycles_77 ?_
        refine lv_istore_n (pc := 78) (lv' := [(3, .int (l3 + 0)), (0, .ref (h 0)), (1, .int l1), (2, .int l2_3), (4, .int l4), (5, .int l5_3), (6, .int l6_3)]) hx hb dX10_cycles_78 rfl hl (by decide) rfl (fun ls hl => ?_)
        refine lv_iinc (pc := 79) (v := l4 + 1) (lv' := [(4, .int (l4 + 1)), (3, .int (l3 + 0)), (0, .ref (h 0)), (1, .int l1), (2, .int l2_3), (5, .int l5_3), (6, .int l6_3)]) hx hb dX10_cycles_79 hl (k := 4) rfl rfl (by decide) rfl (fun ls hl => ?_)
        refine lv_goto (pc := 82) (tgt := 7) hx hb dX10_cycles_82 (by decide) ?_
        exact ih hI (lv_sub hl [2, 3, 4, 1, 0] rfl) hf
      · have hf := q_in c4 hf
        refine lv_iload_n (pc := 62) hx hb dX10_cycles_62 rfl (lv_at hl 1 rfl) ?_
        refine lv_if_eq (pc := 63) (tgt := 72) hx hb dX10_cycles_63 (by decide) (fun c5 => ?_) (fun c5 => ?_)
        · have hf := q_ip c5 hf
          refine lv_iconst (pc := 72) (v := 1) hx hb dX10_cycles_72 (by decide) ?_
          refine lv_goto (pc := 73) (tgt := 77) hx hb dX10_cycles_73 (by decide) ?_
          refine lv_iadd (pc := 77) hx hb dX10_cycles_77 ?_
          refine lv_istore_n (pc := 78) (lv' := [(3, .int (l3 + 1)), (0, .ref (h 0)), (1, .int l1), (2, .int l2_3), (4, .int l4), (5, .int l5_3), (6, .int l6_3)]) hx hb dX10_cycles_78 rfl hl (by decide) rfl (fun ls hl => ?_)
          refine lv_iinc (pc := 79) (v := l4 + 1) (lv' := [(4, .int (l4 + 1)), (3, .int (l3 + 1)), (0, .ref (h 0)), (1, .int l1), (2, .int l2_3), (5, .int l5_3), (6, .int l6_3)]) hx hb dX10_cycles_79 hl (k := 4) rfl rfl (by decide) rfl (fun ls hl => ?_)
          refine lv_goto (pc := 82) (tgt := 7) hx hb dX10_cycles_82 (by decide) ?_
          exact ih hI (lv_sub hl [2, 3, 4, 1, 0] rfl) hf
        · have hf := q_in c5 hf
          refine lv_iload (pc := 66) hx hb dX10_cycles_66 (lv_at hl 5 rfl) ?_
          refine lv_iload_n (pc := 68) hx hb dX10_cycles_68 rfl (lv_at hl 1 rfl) ?_
          refine lv_icmp_ne (pc := 69) (tgt := 76) hx hb dX10_cycles_69 (by decide) (fun c6 => ?_) (fun c6 => ?_)
          · have hf := q_in c6 hf
            refine lv_iconst (pc := 76) (v := 0) hx hb dX10_cycles_76 (by decide) ?_
            refine lv_iadd (pc := 77) hx hb dX10_cycles_77 ?_
            refine lv_istore_n (pc := 78) (lv' := [(3, .int (l3 + 0)), (0, .ref (h 0)), (1, .int l1), (2, .int l2_3), (4, .int l4), (5, .int l5_3), (6, .int l6_3)]) hx hb dX10_cycles_78 rfl hl (by decide) rfl (fun ls hl => ?_)
            refine lv_iinc (pc := 79) (v := l4 + 1) (lv' := [(4, .int (l4 + 1)), (3, .int (l3 + 0)), (0, .ref (h 0)), (1, .int l1), (2, .int l2_3), (5, .int l5_3), (6, .int l6_3)]) hx hb dX10_cycles_79 hl (k := 4) rfl rfl (by decide) rfl (fun ls hl => ?_)
            refine lv_goto (pc := 82) (tgt := 7) hx hb dX10_cycles_82 (by decide) ?_
            exact ih hI (lv_sub hl [2, 3, 4, 1, 0] rfl) hf
          · have hf := q_ip c6 hf
            refine lv_iconst (pc := 72) (v := 1) hx hb dX10_cycles_72 (by decide) ?_
            refine lv_goto (pc := 73) (tgt := 77) hx hb dX10_cycles_73 (by decide) ?_
            refine lv_iadd (pc := 77) hx hb dX10_cycles_77 ?_
            refine lv_istore_n (pc := 78) (lv' := [(3, .int (l3 + 1)), (0, .ref (h 0)), (1, .int l1), (2, .int l2_3), (4, .int l4), (5, .int l5_3), (6, .int l6_3)]) hx hb dX10_cycles_78 rfl hl (by decide) rfl (fun ls hl => ?_)
            refine lv_iinc (pc := 79) (v := l4 + 1) (lv' := [(4, .int (l4 + 1)), (3, .int (l3 + 1)), (0, .ref (h 0)), (1, .int l1), (2, .int l2_3), (5, .int l5_3), (6, .int l6_3)]) hx hb dX10_cycles_79 hl (k := 4) rfl rfl (by decide) rfl (fun ls hl => ?_)
            refine lv_goto (pc := 82) (tgt := 7) hx hb dX10_cycles_82 (by decide) ?_
            exact ih hI (lv_sub hl [2, 3, 4, 1, 0] rfl) hf

set_option maxHeartbeats 4000000 in
set_option maxRecDepth 100000 in
theorem c_X10_cycles (l : Launch) (G : GX) (h : Nat → Nat) {l1 : Int32} {z_s : Nat → Int32} {z_asked : Nat → Int32} {z_thrown : Int32} {z_kept : Nat → Int32} {z_isKept : Int32} {z_moveMany : Int32} {z_moves : Nat → Int32} {z_hands : Nat → Int32} {z_troubles : Int32} {z_troubleSorts : Nat → Int32} {z_troubleNumbers : Nat → Int32} {z_paint : Nat → Int32} {z_leasts : Nat → Int32} {z_isSeen : Nat → Int32} {z_classMany : Int32} {z_types : Nat → Int32} {z_typeCounts : Nat → Int32} {z_typeMany : Int32} {z_text : Nat → Int32} {z_signs : Int32} {z_at : Int32} {z_lacks : Int32} {z_clauses : Int32} {z_begun : Int32} {z_letters : Nat → Int32} {z_firsts : Nat → Int32} {z_seconds : Nat → Int32} {z_aside : Nat → Int32} {z_sorts : Nat → Int32} {z_sizes : Nat → Int32} {z_items : Nat → Int64} {res : Int32} (hf : f_X10_cycles l1 z_s z_asked = some res) : MX l yX10_cycles cX10_cycles 7 (some .int) rm_X10_cycles G (mw G h z_thrown z_s z_kept z_isKept z_moveMany z_moves z_hands z_troubles z_troubleSorts z_troubleNumbers z_asked z_paint z_leasts z_isSeen z_classMany z_types z_typeCounts z_typeMany z_text z_signs z_at z_lacks z_clauses z_begun z_letters z_firsts z_seconds z_aside z_sorts z_sizes z_items) [.ref (h 0), .int l1] (mw G h z_thrown z_s z_kept z_isKept z_moveMany z_moves z_hands z_troubles z_troubleSorts z_troubleNumbers z_asked z_paint z_leasts z_isSeen z_classMany z_types z_typeCounts z_typeMany z_text z_signs z_at z_lacks z_clauses z_begun z_letters z_firsts z_seconds z_aside z_sorts z_sizes z_items) (some (.int res)) 0 0 := by
  refine MX.of (plainFor_of_name (by decide)) (Nat.le_of_ble_eq_true rfl) ?_
  intro p e s m below meth c A X E hI ls hl
  obtain ⟨hx, hb, hml, hown, hts, hr, hlk⟩ := id X
  have hl : lv_has ls 7 [(0, .ref (h 0)), (1, .int l1)] := hl
  unfold f_X10_cycles at hf
  refine lv_iconst (pc := 0) (v := 0) hx hb dX10_cycles_0 (by decide) ?_
  refine lv_istore_n (pc := 1) (lv' := [(2, .int 0), (0, .ref (h 0)), (1, .int l1)]) hx hb dX10_cycles_1 rfl hl (by decide) rfl (fun ls hl => ?_)
  refine lv_iconst (pc := 2) (v := 0) hx hb dX10_cycles_2 (by decide) ?_
  refine lv_istore_n (pc := 3) (lv' := [(3, .int 0), (2, .int 0), (0, .ref (h 0)), (1, .int l1)]) hx hb dX10_cycles_3 rfl hl (by decide) rfl (fun ls hl => ?_)
  refine lv_iconst (pc := 4) (v := 0) hx hb dX10_cycles_4 (by decide) ?_
  refine lv_istore (pc := 5) (lv' := [(4, .int 0), (3, .int 0), (2, .int 0), (0, .ref (h 0)), (1, .int l1)]) hx hb dX10_cycles_5 hl (by decide) rfl (fun ls hl => ?_)
  refine k_X10_cycles_L7 X E (fun l2_1 l3_1 l4_1 H locs ls hI hl hf => ?_) hI (lv_sub hl [3, 4, 2, 1, 0] rfl) hf
  refine lv_iload_n (pc := 85) hx hb dX10_cycles_85 rfl (lv_at hl 3 rfl) ?_
  obtain rfl := Option.some.inj hf
  exact x_iret X hI dX10_cycles_86

abbrev rm_X10_typeAsked : Room := { frames := 2, cells := 0, slots := 0, locals := 47 }
set_option maxHeartbeats 4000000 in
set_option maxRecDepth 100000 in
theorem k_X10_typeAsked_L4 {p : Program} {l : Launch} {e : Env} {s : State} {m : MethodId} {args : Array Value} {below : List Frame} {meth : Method} {c : Code} {A : Nat → Prop} {G : GX} {h : Nat → Nat} {z_thrown : Int32} {z_s : Nat → Int32} {z_kept : Nat → Int32} {z_isKept : Int32} {z_moveMany : Int32} {z_moves : Nat → Int32} {z_hands : Nat → Int32} {z_troubles : Int32} {z_troubleSorts : Nat → Int32} {z_troubleNumbers : Nat → Int32} {z_asked : Nat → Int32} {z_paint : Nat → Int32} {z_leasts : Nat → Int32} {z_isSeen : Nat → Int32} {z_classMany : Int32} {z_types : Nat → Int32} {z_typeCounts : Nat → Int32} {z_typeMany : Int32} {z_text : Nat → Int32} {z_signs : Int32} {z_at : Int32} {z_lacks : Int32} {z_clauses : Int32} {z_begun : Int32} {z_letters : Nat → Int32} {z_firsts : Nat → Int32} {z_seconds : Nat → Int32} {z_aside : Nat → Int32} {z_sorts : Nat → Int32} {z_sizes : Nat → Int32} {z_items : Nat → Int64} {K : Int32 → Int32 → Option (Int32)} {res : Int32} (X : CX RX10 cX10_typeAsked 3 (some .int) p s m args meth c) (E : EX G A s)
    (hK : ∀ (l1 : Int32) (l2 : Int32) (H : Heap) (locs : List Loc) (ls : Array Slot), IN A G (mw G h z_thrown z_s z_kept z_isKept z_moveMany z_moves z_hands z_troubles z_troubleSorts z_troubleNumbers z_asked z_paint z_leasts z_isSeen z_classMany z_types z_typeCounts z_typeMany z_text z_signs z_at z_lacks z_clauses z_begun z_letters z_firsts z_seconds z_aside z_sorts z_sizes z_items) s H locs → lv_has ls 3 [(0, .ref (h 0)), (1, .int l1), (2, .int l2)] → K l1 l2 = some res → W p l e rm_X10_typeAsked s m args below meth c H locs 0 0 (MQ below (QX G A (mw G h z_thrown z_s z_kept z_isKept z_moveMany z_moves z_hands z_troubles z_troubleSorts z_troubleNumbers z_asked z_paint z_leasts z_isSeen z_classMany z_types z_typeCounts z_typeMany z_text z_signs z_at z_lacks z_clauses z_begun z_letters z_firsts z_seconds z_aside z_sorts z_sizes z_items) (some (.int res))) args s 0 0 A) (F0 m 27 ls [])) :
    ∀ {k : Nat} {l1 : Int32} {l2 : Int32} {H : Heap} {locs : List Loc} {ls : Array Slot}, IN A G (mw G h z_thrown z_s z_kept z_isKept z_moveMany z_moves z_hands z_troubles z_troubleSorts z_troubleNumbers z_asked z_paint z_leasts z_isSeen z_classMany z_types z_typeCounts z_typeMany z_text z_signs z_at z_lacks z_clauses z_begun z_letters z_firsts z_seconds z_aside z_sorts z_sizes z_items) s H locs → lv_has ls 3 [(0, .ref (h 0)), (1, .int l1), (2, .int l2)] → f_X10_typeAsked_L4 z_s z_asked K k l1 l2 = some res → W p l e rm_X10_typeAsked s m args below meth c H locs 0 0 (MQ below (QX G A (mw G h z_thrown z_s z_kept z_isKept z_moveMany z_moves z_hands z_troubles z_troubleSorts z_troubleNumbers z_asked z_paint z_leasts z_isSeen z_classMany z_types z_typeCounts z_typeMany z_text z_signs z_at z_lacks z_clauses z_begun z_letters z_firsts z_seconds z_aside z_sorts z_sizes z_items) (some (.int res))) args s 0 0 A) (F0 m 4 ls []) := by
  obtain ⟨hx, hb, hml, hown, hts, hr, hlk⟩ := id X
  intro k
  induction k with
  | zero => intro l1 l2 H locs ls hI hl hf; exact nomatch (show none = some res from hf)
  | succ k ih =>
    intro l1 l2 H locs ls hI hl hf
    rw [f_X10_typeAsked_L4] at hf
    refine lv_iload_n (pc := 4) hx hb dX10_typeAsked_4 rfl (lv_at hl 2 rfl) ?_
    refine lv_bipush (pc := 5) (v := 6) hx hb dX10_typeAsked_5 (by decide) ?_
    refine lv_icmp_gt (pc := 7) (tgt := 27) hx hb dX10_typeAsked_7 (by decide) (fun c1 => ?_) (fun c1 => ?_)
    · have hf := q_ip c1 hf
      exact hK _ _ _ _ _ hI (lv_sub hl [0, 1, 2] rfl) hf
    · have hf := q_in c1 hf
      refine lv_bipush (pc := 10) (v := 10) hx hb dX10_typeAsked_10 (by decide) ?_
      refine lv_iload_n (pc := 12) hx hb dX10_typeAsked_12 rfl (lv_at hl 1 rfl) ?_
      refine lv_imul (pc := 13) hx hb dX10_typeAsked_13 ?_
      refine lv_aload_n (pc := 14) hx hb dX10_typeAsked_14 rfl (lv_at hl 0 rfl) ?_
      refine lv_iload_n (pc := 15) hx hb dX10_typeAsked_15 rfl (lv_at hl 2 rfl) ?_
      obtain ⟨t2, e2, hf⟩ := q_ob hf
      refine x_cVs (pc := 16) (st1 := [.int t2, .int (10 * l1)]) (w1 := (mw G h z_thrown z_s z_kept z_isKept z_moveMany z_moves z_hands z_troubles z_troubleSorts z_troubleNumbers z_asked z_paint z_leasts z_isSeen z_classMany z_types z_typeCounts z_typeMany z_text z_signs z_at z_lacks z_clauses z_begun z_letters z_firsts z_seconds z_aside z_sorts z_sizes z_items)) X E hI (c_X10_cycles l G h e2) kv_X10_144 hd_X10_cycles ⟨rfl, rfl⟩ (by decide) 0 rfl rfl rfl rfl hl.1 rfl (Nat.le_of_ble_eq_true rfl) dX10_typeAsked_16 ⟨Nat.le_of_ble_eq_true rfl, Nat.le_of_ble_eq_true rfl⟩ rfl (fun H locs hI => ?_)
      refine lv_iadd (pc := 19) hx hb dX10_typeAsked_19 ?_
      refine lv_istore_n (pc := 20) (lv' := [(1, .int ((10 * l1) + t2)), (0, .ref (h 0)), (2, .int l2)]) hx hb dX10_typeAsked_20 rfl hl (by decide) rfl (fun ls hl => ?_)
      refine lv_iinc (pc := 21) (v := l2 + 1) (lv' := [(2, .int (l2 + 1)), (1, .int ((10 * l1) + t2)), (0, .ref (h 0))]) hx hb dX10_typeAsked_21 hl (k := 2) rfl rfl (by decide) rfl (fun ls hl => ?_)
      refine lv_goto (pc := 24) (tgt := 4) hx hb dX10_typeAsked_24 (by decide) ?_
      exact ih hI (lv_sub hl [2, 1, 0] rfl) hf

set_option maxHeartbeats 4000000 in
set_option maxRecDepth 100000 in
theorem c_X10_typeAsked (l : Launch) (G : GX) (h : Nat → Nat) {z_s : Nat → Int32} {z_asked : Nat → Int32} {z_thrown : Int32} {z_kept : Nat → Int32} {z_isKept : Int32} {z_moveMany : Int32} {z_moves : Nat → Int32} {z_hands : Nat → Int32} {z_troubles : Int32} {z_troubleSorts : Nat → Int32} {z_troubleNumbers : Nat → Int32} {z_paint : Nat → Int32} {z_leasts : Nat → Int32} {z_isSeen : Nat → Int32} {z_classMany : Int32} {z_types : Nat → Int32} {z_typeCounts : Nat → Int32} {z_typeMany : Int32} {z_text : Nat → Int32} {z_signs : Int32} {z_at : Int32} {z_lacks : Int32} {z_clauses : Int32} {z_begun : Int32} {z_letters : Nat → Int32} {z_firsts : Nat → Int32} {z_seconds : Nat → Int32} {z_aside : Nat → Int32} {z_sorts : Nat → Int32} {z_sizes : Nat → Int32} {z_items : Nat → Int64} {res : Int32} (hf : f_X10_typeAsked z_s z_asked = some res) : MX l yX10_typeAsked cX10_typeAsked 3 (some .int) rm_X10_typeAsked G (mw G h z_thrown z_s z_kept z_isKept z_moveMany z_moves z_hands z_troubles z_troubleSorts z_troubleNumbers z_asked z_paint z_leasts z_isSeen z_classMany z_types z_typeCounts z_typeMany z_text z_signs z_at z_lacks z_clauses z_begun z_letters z_firsts z_seconds z_aside z_sorts z_sizes z_items) [.ref (h 0)] (mw G h z_thrown z_s z_kept z_isKept z_moveMany z_moves z_hands z_troubles z_troubleSorts z_troubleNumbers z_asked z_paint z_leasts z_isSeen z_classMany z_types z_typeCounts z_typeMany z_text z_signs z_at z_lacks z_clauses z_begun z_letters z_firsts z_seconds z_aside z_sorts z_sizes z_items) (some (.int res)) 0 0 := by
  refine MX.of (plainFor_of_name (by decide)) (Nat.le_of_ble_eq_true rfl) ?_
  intro p e s m below meth c A X E hI ls hl
  obtain ⟨hx, hb, hml, hown, hts, hr, hlk⟩ := id X
  have hl : lv_has ls 3 [(0, .ref (h 0))] := hl
  unfold f_X10_typeAsked at hf
  refine lv_iconst (pc := 0) (v := 0) hx hb dX10_typeAsked_0 (by decide) ?_
  refine lv_istore_n (pc := 1) (lv' := [(1, .int 0), (0, .ref (h 0))]) hx hb dX10_typeAsked_1 rfl hl (by decide) rfl (fun ls hl => ?_)
  refine lv_iconst (pc := 2) (v := 1) hx hb dX10_typeAsked_2 (by decide) ?_
  refine lv_istore_n (pc := 3) (lv' := [(2, .int 1), (1, .int 0), (0, .ref (h 0))]) hx hb dX10_typeAsked_3 rfl hl (by decide) rfl (fun ls hl => ?_)
  refine k_X10_typeAsked_L4 X E (fun l1_1 l2_1 H locs ls hI hl hf => ?_) hI (lv_sub hl [2, 1, 0] rfl) hf
  refine lv_iload_n (pc := 27) hx hb dX10_typeAsked_27 rfl (lv_at hl 1 rfl) ?_
  obtain rfl := Option.some.inj hf
  exact x_iret X hI dX10_typeAsked_28

abbrev rm_X10_typeOf : Room := { frames := 3, cells := 0, slots := 0, locals := 69 }
set_option maxHeartbeats 4000000 in
set_option maxRecDepth 100000 in
theorem k_X10_typeOf_L2 {p : Program} {l : Launch} {e : Env} {s : State} {m : MethodId} {args : Array Value} {below : List Frame} {meth : Method} {c : Code} {A : Nat → Prop} {G : GX} {h : Nat → Nat} {l1 : Int32} {z_thrown : Int32} {z_s : Nat → Int32} {z_kept : Nat → Int32} {z_isKept : Int32} {z_moveMany : Int32} {z_moves : Nat → Int32} {z_hands : Nat → Int32} {z_troubles : Int32} {z_troubleSorts : Nat → Int32} {z_troubleNumbers : Nat → Int32} {z_paint : Nat → Int32} {z_leasts : Nat → Int32} {z_isSeen : Nat → Int32} {z_classMany : Int32} {z_types : Nat → Int32} {z_typeCounts : Nat → Int32} {z_typeMany : Int32} {z_text : Nat → Int32} {z_signs : Int32} {z_at : Int32} {z_lacks : Int32} {z_clauses : Int32} {z_begun : Int32} {z_letters : Nat → Int32} {z_firsts : Nat → Int32} {z_seconds : Nat → Int32} {z_aside : Nat → Int32} {z_sorts : Nat → Int32} {z_sizes : Nat → Int32} {z_items : Nat → Int64} {K : Int32 → (Nat → Int32) → Option (Int32 × (Nat → Int32))} {res : Int32 × (Nat → Int32)} (X : CX RX10 cX10_typeOf 3 (some .int) p s m args meth c) (E : EX G A s)
    (hK : ∀ (l2 : Int32) (z_asked : (Nat → Int32)) (H : Heap) (locs : List Loc) (ls : Array Slot), IN A G (mw G h z_thrown z_s z_kept z_isKept z_moveMany z_moves z_hands z_troubles z_troubleSorts z_troubleNumbers z_asked z_paint z_leasts z_isSeen z_classMany z_types z_typeCounts z_typeMany z_text z_signs z_at z_lacks z_clauses z_begun z_letters z_firsts z_seconds z_aside z_sorts z_sizes z_items) s H locs → lv_has ls 3 [(0, .ref (h 0)), (1, .int l1), (2, .int l2)] → K l2 z_asked = some res → W p l e rm_X10_typeOf s m args below meth c H locs 0 0 (MQ below (QX G A (mw G h z_thrown z_s z_kept z_isKept z_moveMany z_moves z_hands z_troubles z_troubleSorts z_troubleNumbers res.2 z_paint z_leasts z_isSeen z_classMany z_types z_typeCounts z_typeMany z_text z_signs z_at z_lacks z_clauses z_begun z_letters z_firsts z_seconds z_aside z_sorts z_sizes z_items) (some (.int res.1))) args s 0 0 A) (F0 m 30 ls [])) :
    ∀ {k : Nat} {l2 : Int32} {z_asked : (Nat → Int32)} {H : Heap} {locs : List Loc} {ls : Array Slot}, IN A G (mw G h z_thrown z_s z_kept z_isKept z_moveMany z_moves z_hands z_troubles z_troubleSorts z_troubleNumbers z_asked z_paint z_leasts z_isSeen z_classMany z_types z_typeCounts z_typeMany z_text z_signs z_at z_lacks z_clauses z_begun z_letters z_firsts z_seconds z_aside z_sorts z_sizes z_items) s H locs → lv_has ls 3 [(0, .ref (h 0)), (1, .int l1), (2, .int l2)] → f_X10_typeOf_L2 l1 z_s z_moves K k l2 z_asked = some res → W p l e rm_X10_typeOf s m args below meth c H locs 0 0 (MQ below (QX G A (mw G h z_thrown z_s z_kept z_isKept z_moveMany z_moves z_hands z_troubles z_troubleSorts z_troubleNumbers res.2 z_paint z_leasts z_isSeen z_classMany z_types z_typeCounts z_typeMany z_text z_signs z_at z_lacks z_clauses z_begun z_letters z_firsts z_seconds z_aside z_sorts z_sizes z_items) (some (.int res.1))) args s 0 0 A) (F0 m 2 ls []) := by
  obtain ⟨hx, hb, hml, hown, hts, hr, hlk⟩ := id X
  intro k
  induction k with
  | zero => intro l2 z_asked H locs ls hI hl hf; exact nomatch (show none = some res from hf)
  | succ k ih =>
    intro l2 z_asked H locs ls hI hl hf
    rw [f_X10_typeOf_L2] at hf
    refine lv_iload_n (pc := 2) hx hb dX10_typeOf_2 rfl (lv_at hl 2 rfl) ?_
    refine lv_aload_n (pc := 3) hx hb dX10_typeOf_3 rfl (lv_at hl 0 rfl) ?_
    refine x_get (pc := 4) X E hI inX10 0 rfl rfl 1 (by decide) tw_3_230 rfl dX10_typeOf_4 ?_
    refine lv_iconst (pc := 7) (v := 0) hx hb dX10_typeOf_7 (by decide) ?_
    obtain ⟨t1, e1, hf⟩ := q_ob hf
    refine x_iald (pc := 8) X E hI 1 rfl e1 dX10_typeOf_8 ?_
    refine lv_icmp_ge (pc := 9) (tgt := 30) hx hb dX10_typeOf_9 (by decide) (fun c2 => ?_) (fun c2 => ?_)
    · have hf := q_ip c2 hf
      exact hK _ _ _ _ _ hI (lv_sub hl [0, 1, 2] rfl) hf
    · have hf := q_in c2 hf
      refine lv_aload_n (pc := 12) hx hb dX10_typeOf_12 rfl (lv_at hl 0 rfl) ?_
      refine x_get (pc := 13) X E hI inX10 0 rfl rfl 10 (by decide) tw_3_239 rfl dX10_typeOf_13 ?_
      refine lv_iload_n (pc := 16) hx hb dX10_typeOf_16 rfl (lv_at hl 2 rfl) ?_
      refine lv_aload_n (pc := 17) hx hb dX10_typeOf_17 rfl (lv_at hl 0 rfl) ?_
      refine lv_iload_n (pc := 18) hx hb dX10_typeOf_18 rfl (lv_at hl 1 rfl) ?_
      refine lv_iload_n (pc := 19) hx hb dX10_typeOf_19 rfl (lv_at hl 2 rfl) ?_
      obtain ⟨t3, e3, hf⟩ := q_ob hf
      refine x_cVs (pc := 20) (st1 := [.int t3, .int l2, .ref (h 7)]) (w1 := (mw G h z_thrown z_s z_kept z_isKept z_moveMany z_moves z_hands z_troubles z_troubleSorts z_troubleNumbers z_asked z_paint z_leasts z_isSeen z_classMany z_types z_typeCounts z_typeMany z_text z_signs z_at z_lacks z_clauses z_begun z_letters z_firsts z_seconds z_aside z_sorts z_sizes z_items)) X E hI (c_X10_digit l G h e3) kv_X10_95 hd_X10_digit ⟨rfl, rfl⟩ (by decide) 0 rfl rfl rfl rfl hl.1 rfl (Nat.le_of_ble_eq_true rfl) dX10_typeOf_20 ⟨Nat.le_of_ble_eq_true rfl, Nat.le_of_ble_eq_true rfl⟩ rfl (fun H locs hI => ?_)
      obtain ⟨t4, e4, hf⟩ := q_ob hf
      refine x_iast (pc := 23) (w' := (mw G h z_thrown z_s z_kept z_isKept z_moveMany z_moves z_hands z_troubles z_troubleSorts z_troubleNumbers t4 z_paint z_leasts z_isSeen z_classMany z_types z_typeCounts z_typeMany z_text z_signs z_at z_lacks z_clauses z_begun z_letters z_firsts z_seconds z_aside z_sorts z_sizes z_items)) X E hI 7 rfl e4 rfl dX10_typeOf_23 (fun H locs hI => ?_)
      refine lv_iinc (pc := 24) (v := l2 + 1) (lv' := [(2, .int (l2 + 1)), (0, .ref (h 0)), (1, .int l1)]) hx hb dX10_typeOf_24 hl (k := 2) rfl rfl (by decide) rfl (fun ls hl => ?_)
      refine lv_goto (pc := 27) (tgt := 2) hx hb dX10_typeOf_27 (by decide) ?_
      exact ih hI (lv_sub hl [1, 2, 0] rfl) hf

set_option maxHeartbeats 4000000 in
set_option maxRecDepth 100000 in
theorem c_X10_typeOf (l : Launch) (G : GX) (h : Nat → Nat) {l1 : Int32} {z_s : Nat → Int32} {z_moves : Nat → Int32} {z_asked : Nat → Int32} {z_thrown : Int32} {z_kept : Nat → Int32} {z_isKept : Int32} {z_moveMany : Int32} {z_hands : Nat → Int32} {z_troubles : Int32} {z_troubleSorts : Nat → Int32} {z_troubleNumbers : Nat → Int32} {z_paint : Nat → Int32} {z_leasts : Nat → Int32} {z_isSeen : Nat → Int32} {z_classMany : Int32} {z_types : Nat → Int32} {z_typeCounts : Nat → Int32} {z_typeMany : Int32} {z_text : Nat → Int32} {z_signs : Int32} {z_at : Int32} {z_lacks : Int32} {z_clauses : Int32} {z_begun : Int32} {z_letters : Nat → Int32} {z_firsts : Nat → Int32} {z_seconds : Nat → Int32} {z_aside : Nat → Int32} {z_sorts : Nat → Int32} {z_sizes : Nat → Int32} {z_items : Nat → Int64} {res : Int32 × (Nat → Int32)} (hf : f_X10_typeOf l1 z_s z_moves z_asked = some res) : MX l yX10_typeOf cX10_typeOf 3 (some .int) rm_X10_typeOf G (mw G h z_thrown z_s z_kept z_isKept z_moveMany z_moves z_hands z_troubles z_troubleSorts z_troubleNumbers z_asked z_paint z_leasts z_isSeen z_classMany z_types z_typeCounts z_typeMany z_text z_signs z_at z_lacks z_clauses z_begun z_letters z_firsts z_seconds z_aside z_sorts z_sizes z_items) [.ref (h 0), .int l1] (mw G h z_thrown z_s z_kept z_isKept z_moveMany z_moves z_hands z_troubles z_troubleSorts z_troubleNumbers res.2 z_paint z_leasts z_isSeen z_classMany z_types z_typeCounts z_typeMany z_text z_signs z_at z_lacks z_clauses z_begun z_letters z_firsts z_seconds z_aside z_sorts z_sizes z_items) (some (.int res.1)) 0 0 := by
  refine MX.of (plainFor_of_name (by decide)) (Nat.le_of_ble_eq_true rfl) ?_
  intro p e s m below meth c A X E hI ls hl
  obtain ⟨hx, hb, hml, hown, hts, hr, hlk⟩ := id X
  have hl : lv_has ls 3 [(0, .ref (h 0)), (1, .int l1)] := hl
  unfold f_X10_typeOf at hf
  refine lv_iconst (pc := 0) (v := 0) hx hb dX10_typeOf_0 (by decide) ?_
  refine lv_istore_n (pc := 1) (lv' := [(2, .int 0), (0, .ref (h 0)), (1, .int l1)]) hx hb dX10_typeOf_1 rfl hl (by decide) rfl (fun ls hl => ?_)
  refine k_X10_typeOf_L2 X E (fun l2_1 z_asked_1 H locs ls hI hl hf => ?_) hI (lv_sub hl [1, 2, 0] rfl) hf
  refine lv_aload_n (pc := 30) hx hb dX10_typeOf_30 rfl (lv_at hl 0 rfl) ?_
  obtain ⟨t2, e2, hf⟩ := q_ob hf
  refine x_cVs (pc := 31) (st1 := [.int t2]) (w1 := (mw G h z_thrown z_s z_kept z_isKept z_moveMany z_moves z_hands z_troubles z_troubleSorts z_troubleNumbers z_asked_1 z_paint z_leasts z_isSeen z_classMany z_types z_typeCounts z_typeMany z_text z_signs z_at z_lacks z_clauses z_begun z_letters z_firsts z_seconds z_aside z_sorts z_sizes z_items)) X E hI (c_X10_typeAsked l G h e2) kv_X10_147 hd_X10_typeAsked ⟨rfl, rfl⟩ (by decide) 0 rfl rfl rfl rfl hl.1 rfl (Nat.le_of_ble_eq_true rfl) dX10_typeOf_31 ⟨Nat.le_of_ble_eq_true rfl, Nat.le_of_ble_eq_true rfl⟩ rfl (fun H locs hI => ?_)
  obtain rfl := Option.some.inj hf
  exact x_iret X hI dX10_typeOf_34

abbrev rm_X10_of : Room := { frames := 3, cells := 0, slots := 0, locals := 69 }
set_option maxHeartbeats 4000000 in
set_option maxRecDepth 100000 in
theorem k_X10_of_L51 {p : Program} {l : Launch} {e : Env} {s : State} {m : MethodId} {args : Array Value} {below : List Frame} {meth : Method} {c : Code} {A : Nat → Prop} {G : GX} {h : Nat → Nat} {l1 : Int32} {z_thrown : Int32} {z_s : Nat → Int32} {z_kept : Nat → Int32} {z_isKept : Int32} {z_moveMany : Int32} {z_moves : Nat → Int32} {z_hands : Nat → Int32} {z_troubles : Int32} {z_troubleSorts : Nat → Int32} {z_troubleNumbers : Nat → Int32} {z_paint : Nat → Int32} {z_leasts : Nat → Int32} {z_isSeen : Nat → Int32} {z_classMany : Int32} {z_types : Nat → Int32} {z_typeCounts : Nat → Int32} {z_typeMany : Int32} {z_text : Nat → Int32} {z_signs : Int32} {z_at : Int32} {z_lacks : Int32} {z_clauses : Int32} {z_begun : Int32} {z_letters : Nat → Int32} {z_firsts : Nat → Int32} {z_seconds : Nat → Int32} {z_aside : Nat → Int32} {z_sorts : Nat → Int32} {z_sizes : Nat → Int32} {z_items : Nat → Int64} {K : Int32 → (Nat → Int32) → Option (Int32 × (Nat → Int32))} {res : Int32 × (Nat → Int32)} (X : CX RX10 cX10_of 4 (some .int) p s m args meth c) (E : EX G A s)
    (hK : ∀ (l3 : Int32) (z_asked : (Nat → Int32)) (H : Heap) (locs : List Loc) (ls : Array Slot), IN A G (mw G h z_thrown z_s z_kept z_isKept z_moveMany z_moves z_hands z_troubles z_troubleSorts z_troubleNumbers z_asked z_paint z_leasts z_isSeen z_classMany z_types z_typeCounts z_typeMany z_text z_signs z_at z_lacks z_clauses z_begun z_letters z_firsts z_seconds z_aside z_sorts z_sizes z_items) s H locs → lv_has ls 4 [(0, .ref (h 0)), (1, .int l1), (3, .int l3)] → K l3 z_asked = some res → W p l e rm_X10_of s m args below meth c H locs 0 0 (MQ below (QX G A (mw G h z_thrown z_s z_kept z_isKept z_moveMany z_moves z_hands z_troubles z_troubleSorts z_troubleNumbers res.2 z_paint z_leasts z_isSeen z_classMany z_types z_typeCounts z_typeMany z_text z_signs z_at z_lacks z_clauses z_begun z_letters z_firsts z_seconds z_aside z_sorts z_sizes z_items) (some (.int res.1))) args s 0 0 A) (F0 m 87 ls [])) :
    ∀ {k : Nat} {l3 : Int32} {z_asked : (Nat → Int32)} {H : Heap} {locs : List Loc} {ls : Array Slot}, IN A G (mw G h z_thrown z_s z_kept z_isKept z_moveMany z_moves z_hands z_troubles z_troubleSorts z_troubleNumbers z_asked z_paint z_leasts z_isSeen z_classMany z_types z_typeCounts z_typeMany z_text z_signs z_at z_lacks z_clauses z_begun z_letters z_firsts z_seconds z_aside z_sorts z_sizes z_items) s H locs → lv_has ls 4 [(0, .ref (h 0)), (1, .int l1), (3, .int l3)] → f_X10_of_L51 l1 z_s K k l3 z_asked = some res → W p l e rm_X10_of s m args below meth c H locs 0 0 (MQ below (QX G A (mw G h z_thrown z_s z_kept z_isKept z_moveMany z_moves z_hands z_troubles z_troubleSorts z_troubleNumbers res.2 z_paint z_leasts z_isSeen z_classMany z_types z_typeCounts z_typeMany z_text z_signs z_at z_lacks z_clauses z_begun z_letters z_firsts z_seconds z_aside z_sorts z_sizes z_items) (some (.int res.1))) args s 0 0 A) (F0 m 51 ls []) := by
  obtain ⟨hx, hb, hml, hown, hts, hr, hlk⟩ := id X
  intro k
  induction k with
  | zero => intro l3 z_asked H locs ls hI hl hf; exact nomatch (show none = some res from hf)
  | succ k ih =>
    intro l3 z_asked H locs ls hI hl hf
    rw [f_X10_of_L51] at hf
    refine lv_iload_n (pc := 51) hx hb dX10_of_51 rfl (lv_at hl 2 rfl) ?_
    refine lv_aload_n (pc := 52) hx hb dX10_of_52 rfl (lv_at hl 0 rfl) ?_
    refine x_get (pc := 53) X E hI inX10 0 rfl rfl 1 (by decide) tw_3_230 rfl dX10_of_53 ?_
    refine lv_iconst (pc := 56) (v := 0) hx hb dX10_of_56 (by decide) ?_
    obtain ⟨t1, e1, hf⟩ := q_ob hf
    refine x_iald (pc := 57) X E hI 1 rfl e1 dX10_of_57 ?_
    refine lv_icmp_ge (pc := 58) (tgt := 87) hx hb dX10_of_58 (by decide) (fun c2 => ?_) (fun c2 => ?_)
    · have hf := q_ip c2 hf
      exact hK _ _ _ _ _ hI (lv_sub hl [0, 1, 2] rfl) hf
    · have hf := q_in c2 hf
      refine lv_aload_n (pc := 61) hx hb dX10_of_61 rfl (lv_at hl 0 rfl) ?_
      refine x_get (pc := 62) X E hI inX10 0 rfl rfl 10 (by decide) tw_3_239 rfl dX10_of_62 ?_
      refine lv_iload_n (pc := 65) hx hb dX10_of_65 rfl (lv_at hl 2 rfl) ?_
      refine lv_aload_n (pc := 66) hx hb dX10_of_66 rfl (lv_at hl 0 rfl) ?_
      refine x_get (pc := 67) X E hI inX10 0 rfl rfl 1 (by decide) tw_3_230 rfl dX10_of_67 ?_
      refine lv_bipush (pc := 70) (v := 9) hx hb dX10_of_70 (by decide) ?_
      refine lv_bipush (pc := 72) (v := 6) hx hb dX10_of_72 (by decide) ?_
      refine lv_iload_n (pc := 74) hx hb dX10_of_74 rfl (lv_at hl 1 rfl) ?_
      refine lv_imul (pc := 75) hx hb dX10_of_75 ?_
      refine lv_iadd (pc := 76) hx hb dX10_of_76 ?_
      refine lv_iload_n (pc := 77) hx hb dX10_of_77 rfl (lv_at hl 2 rfl) ?_
      refine lv_iadd (pc := 78) hx hb dX10_of_78 ?_
      obtain ⟨t3, e3, hf⟩ := q_ob hf
      refine x_iald (pc := 79) X E hI 1 rfl e3 dX10_of_79 ?_
      obtain ⟨t4, e4, hf⟩ := q_ob hf
      refine x_iast (pc := 80) (w' := (mw G h z_thrown z_s z_kept z_isKept z_moveMany z_moves z_hands z_troubles z_troubleSorts z_troubleNumbers t4 z_paint z_leasts z_isSeen z_classMany z_types z_typeCounts z_typeMany z_text z_signs z_at z_lacks z_clauses z_begun z_letters z_firsts z_seconds z_aside z_sorts z_sizes z_items)) X E hI 7 rfl e4 rfl dX10_of_80 (fun H locs hI => ?_)
      refine lv_iinc (pc := 81) (v := l3 + 1) (lv' := [(3, .int (l3 + 1)), (0, .ref (h 0)), (1, .int l1)]) hx hb dX10_of_81 hl (k := 2) rfl rfl (by decide) rfl (fun ls hl => ?_)
      refine lv_goto (pc := 84) (tgt := 51) hx hb dX10_of_84 (by decide) ?_
      exact ih hI (lv_sub hl [1, 2, 0] rfl) hf

set_option maxHeartbeats 4000000 in
set_option maxRecDepth 100000 in
theorem c_X10_of (l : Launch) (G : GX) (h : Nat → Nat) {l1 : Int32} {l2 : Int32} {z_s : Nat → Int32} {z_asked : Nat → Int32} {z_thrown : Int32} {z_kept : Nat → Int32} {z_isKept : Int32} {z_moveMany : Int32} {z_moves : Nat → Int32} {z_hands : Nat → Int32} {z_troubles : Int32} {z_troubleSorts : Nat → Int32} {z_troubleNumbers : Nat → Int32} {z_paint : Nat → Int32} {z_leasts : Nat → Int32} {z_isSeen : Nat → Int32} {z_classMany : Int32} {z_types : Nat → Int32} {z_typeCounts : Nat → Int32} {z_typeMany : Int32} {z_text : Nat → Int32} {z_signs : Int32} {z_at : Int32} {z_lacks : Int32} {z_clauses : Int32} {z_begun : Int32} {z_letters : Nat → Int32} {z_firsts : Nat → Int32} {z_seconds : Nat → Int32} {z_aside : Nat → Int32} {z_sorts : Nat → Int32} {z_sizes : Nat → Int32} {z_items : Nat → Int64} {res : Int32 × (Nat → Int32)} (hf : f_X10_of l1 l2 z_s z_asked = some res) : MX l yX10_of cX10_of 4 (some .int) rm_X10_of G (mw G h z_thrown z_s z_kept z_isKept z_moveMany z_moves z_hands z_troubles z_troubleSorts z_troubleNumbers z_asked z_paint z_leasts z_isSeen z_classMany z_types z_typeCounts z_typeMany z_text z_signs z_at z_lacks z_clauses z_begun z_letters z_firsts z_seconds z_aside z_sorts z_sizes z_items) [.ref (h 0), .int l1, .int l2] (mw G h z_thrown z_s z_kept z_isKept z_moveMany z_moves z_hands z_troubles z_troubleSorts z_troubleNumbers res.2 z_paint z_leasts z_isSeen z_classMany z_types z_typeCounts z_typeMany z_text z_signs z_at z_lacks z_clauses z_begun z_letters z_firsts z_seconds z_aside z_sorts z_sizes z_items) (some (.int res.1)) 0 0 := by
  refine MX.of (plainFor_of_name (by decide)) (Nat.le_of_ble_eq_true rfl) ?_
  intro p e s m below meth c A X E hI ls hl
  obtain ⟨hx, hb, hml, hown, hts, hr, hlk⟩ := id X
  have hl : lv_has ls 4 [(0, .ref (h 0)), (1, .int l1), (2, .int l2)] := hl
  unfold f_X10_of at hf
  refine lv_aload_n (pc := 0) hx hb dX10_of_0 rfl (lv_at hl 0 rfl) ?_
  refine lv_iload_n (pc := 1) hx hb dX10_of_1 rfl (lv_at hl 1 rfl) ?_
  obtain ⟨t1, e1, hf⟩ := q_ob hf
  refine x_cVs (pc := 2) (st1 := [.int t1]) (w1 := (mw G h z_thrown z_s z_kept z_isKept z_moveMany z_moves z_hands z_troubles z_troubleSorts z_troubleNumbers z_asked z_paint z_leasts z_isSeen z_classMany z_types z_typeCounts z_typeMany z_text z_signs z_at z_lacks z_clauses z_begun z_letters z_firsts z_seconds z_aside z_sorts z_sizes z_items)) X E hI (c_X10_isGenerator l G h e1) kv_X10_150 hd_X10_isGenerator ⟨rfl, rfl⟩ (by decide) 0 rfl rfl rfl rfl hl.1 rfl (Nat.le_of_ble_eq_true rfl) dX10_of_2 ⟨Nat.le_of_ble_eq_true rfl, Nat.le_of_ble_eq_true rfl⟩ rfl (fun H locs hI => ?_)
  refine lv_if_eq (pc := 5) (tgt := 20) hx hb dX10_of_5 (by decide) (fun c2 => ?_) (fun c2 => ?_)
  · have hf := q_ip c2 hf
    refine lv_iconst (pc := 20) (v := (-1)) hx hb dX10_of_20 (by decide) ?_
    obtain rfl := Option.some.inj hf
    exact x_iret X hI dX10_of_21
  · have hf := q_in c2 hf
    refine lv_iload_n (pc := 8) hx hb dX10_of_8 rfl (lv_at hl 2 rfl) ?_
    refine lv_i2l (pc := 9) (v := (l2 : Int32).toInt64) hx hb dX10_of_9 rfl ?_
    refine lv_lconst (pc := 10) (v := 0) hx hb dX10_of_10 (by decide) ?_
    refine lv_ldc2 (pc := 11) (v := 2) hx hb hown (hts _ tw_4_88) dX10_of_11 ?_
    obtain ⟨t3, e3, hf⟩ := q_ob hf
    refine x_cSn (pc := 14) (st1 := [.int t3]) X E hI (c_X10_in l G e3) ks_X10_85 hd_X10_in ⟨rfl, rfl⟩ (by decide) rfl hl.1 rfl (Nat.le_of_ble_eq_true rfl) dX10_of_14 ⟨Nat.le_of_ble_eq_true rfl, Nat.le_of_ble_eq_true rfl⟩ rfl (fun H locs hI => ?_)
    refine lv_if_ne (pc := 17) (tgt := 22) hx hb dX10_of_17 (by decide) (fun c4 => ?_) (fun c4 => ?_)
    · have hf := q_in c4 hf
      refine lv_iload_n (pc := 22) hx hb dX10_of_22 rfl (lv_at hl 2 rfl) ?_
      refine lv_iconst (pc := 23) (v := 2) hx hb dX10_of_23 (by decide) ?_
      refine lv_icmp_ge (pc := 24) (tgt := 49) hx hb dX10_of_24 (by decide) (fun c5 => ?_) (fun c5 => ?_)
      · have hf := q_ip c5 hf
        refine lv_iconst (pc := 49) (v := 0) hx hb dX10_of_49 (by decide) ?_
        refine lv_istore_n (pc := 50) (lv' := [(3, .int 0), (0, .ref (h 0)), (1, .int l1), (2, .int l2)]) hx hb dX10_of_50 rfl hl (by decide) rfl (fun ls hl => ?_)
        refine k_X10_of_L51 X E (fun l3_6 z_asked_6 H locs ls hI hl hf => ?_) hI (lv_sub hl [1, 2, 0] rfl) hf
        refine lv_aload_n (pc := 87) hx hb dX10_of_87 rfl (lv_at hl 0 rfl) ?_
        obtain ⟨t7, e7, hf⟩ := q_ob hf
        refine x_cVs (pc := 88) (st1 := [.int t7]) (w1 := (mw G h z_thrown z_s z_kept z_isKept z_moveMany z_moves z_hands z_troubles z_troubleSorts z_troubleNumbers z_asked_6 z_paint z_leasts z_isSeen z_classMany z_types z_typeCounts z_typeMany z_text z_signs z_at z_lacks z_clauses z_begun z_letters z_firsts z_seconds z_aside z_sorts z_sizes z_items)) X E hI (c_X10_typeAsked l G h e7) kv_X10_147 hd_X10_typeAsked ⟨rfl, rfl⟩ (by decide) 0 rfl rfl rfl rfl hl.1 rfl (Nat.le_of_ble_eq_true rfl) dX10_of_88 ⟨Nat.le_of_ble_eq_true rfl, Nat.le_of_ble_eq_true rfl⟩ rfl (fun H locs hI => ?_)
        obtain rfl := Option.some.inj hf
        exact x_iret X hI dX10_of_91
      · have hf := q_in c5 hf
        refine lv_iload_n (pc := 27) hx hb dX10_of_27 rfl (lv_at hl 2 rfl) ?_
        refine lv_if_ne (pc := 28) (tgt := 39) hx hb dX10_of_28 (by decide) (fun c8 => ?_) (fun c8 => ?_)
        · have hf := q_in c8 hf
          refine lv_aload_n (pc := 39) hx hb dX10_of_39 rfl (lv_at hl 0 rfl) ?_
          refine x_get (pc := 40) X E hI inX10 0 rfl rfl 1 (by decide) tw_3_230 rfl dX10_of_40 ?_
          refine lv_bipush (pc := 43) (v := 33) hx hb dX10_of_43 (by decide) ?_
          refine lv_iload_n (pc := 45) hx hb dX10_of_45 rfl (lv_at hl 1 rfl) ?_
          refine lv_iadd (pc := 46) hx hb dX10_of_46 ?_
          obtain ⟨t9, e9, hf⟩ := q_ob hf
          refine x_iald (pc := 47) X E hI 1 rfl e9 dX10_of_47 ?_
          obtain rfl := Option.some.inj hf
          exact x_iret X hI dX10_of_48
        · have hf := q_ip c8 hf
          refine lv_aload_n (pc := 31) hx hb dX10_of_31 rfl (lv_at hl 0 rfl) ?_
          refine lv_iload_n (pc := 32) hx hb dX10_of_32 rfl (lv_at hl 1 rfl) ?_
          obtain ⟨t10, e10, hf⟩ := q_ob hf
          refine x_cVs (pc := 33) (st1 := [.int t10]) (w1 := (mw G h z_thrown z_s z_kept z_isKept z_moveMany z_moves z_hands z_troubles z_troubleSorts z_troubleNumbers z_asked z_paint z_leasts z_isSeen z_classMany z_types z_typeCounts z_typeMany z_text z_signs z_at z_lacks z_clauses z_begun z_letters z_firsts z_seconds z_aside z_sorts z_sizes z_items)) X E hI (c_X10_rowOf l G h e10) kv_X10_153 hd_X10_rowOf ⟨rfl, rfl⟩ (by decide) 0 rfl rfl rfl rfl hl.1 rfl (Nat.le_of_ble_eq_true rfl) dX10_of_33 ⟨Nat.le_of_ble_eq_true rfl, Nat.le_of_ble_eq_true rfl⟩ rfl (fun H locs hI => ?_)
          refine lv_goto (pc := 36) (tgt := 48) hx hb dX10_of_36 (by decide) ?_
          obtain rfl := Option.some.inj hf
          exact x_iret X hI dX10_of_48
    · have hf := q_ip c4 hf
      refine lv_iconst (pc := 20) (v := (-1)) hx hb dX10_of_20 (by decide) ?_
      obtain rfl := Option.some.inj hf
      exact x_iret X hI dX10_of_21

abbrev rm_X10_lay : Room := { frames := 2, cells := 0, slots := 0, locals := 46 }
set_option maxHeartbeats 4000000 in
set_option maxRecDepth 100000 in
theorem c_X10_lay (l : Launch) (G : GX) (h : Nat → Nat) {l1 : Int32} {l2 : Int32} {l3 : Int32} {z_s : Nat → Int32} {z_thrown : Int32} {z_kept : Nat → Int32} {z_isKept : Int32} {z_moveMany : Int32} {z_moves : Nat → Int32} {z_hands : Nat → Int32} {z_troubles : Int32} {z_troubleSorts : Nat → Int32} {z_troubleNumbers : Nat → Int32} {z_asked : Nat → Int32} {z_paint : Nat → Int32} {z_leasts : Nat → Int32} {z_isSeen : Nat → Int32} {z_classMany : Int32} {z_types : Nat → Int32} {z_typeCounts : Nat → Int32} {z_typeMany : Int32} {z_text : Nat → Int32} {z_signs : Int32} {z_at : Int32} {z_lacks : Int32} {z_clauses : Int32} {z_begun : Int32} {z_letters : Nat → Int32} {z_firsts : Nat → Int32} {z_seconds : Nat → Int32} {z_aside : Nat → Int32} {z_sorts : Nat → Int32} {z_sizes : Nat → Int32} {z_items : Nat → Int64} {res : Int32 × (Nat → Int32)} (hf : f_X10_lay l1 l2 l3 z_s = some res) : MX l yX10_lay cX10_lay 5 (some .int) rm_X10_lay G (mw G h z_thrown z_s z_kept z_isKept z_moveMany z_moves z_hands z_troubles z_troubleSorts z_troubleNumbers z_asked z_paint z_leasts z_isSeen z_classMany z_types z_typeCounts z_typeMany z_text z_signs z_at z_lacks z_clauses z_begun z_letters z_firsts z_seconds z_aside z_sorts z_sizes z_items) [.ref (h 0), .int l1, .int l2, .int l3] (mw G h z_thrown res.2 z_kept z_isKept z_moveMany z_moves z_hands z_troubles z_troubleSorts z_troubleNumbers z_asked z_paint z_leasts z_isSeen z_classMany z_types z_typeCounts z_typeMany z_text z_signs z_at z_lacks z_clauses z_begun z_letters z_firsts z_seconds z_aside z_sorts z_sizes z_items) (some (.int res.1)) 0 0 := by
  refine MX.of (plainFor_of_name (by decide)) (Nat.le_of_ble_eq_true rfl) ?_
  intro p e s m below meth c A X E hI ls hl
  obtain ⟨hx, hb, hml, hown, hts, hr, hlk⟩ := id X
  have hl : lv_has ls 5 [(0, .ref (h 0)), (1, .int l1), (2, .int l2), (3, .int l3)] := hl
  unfold f_X10_lay at hf
  refine lv_iload_n (pc := 0) hx hb dX10_lay_0 rfl (lv_at hl 1 rfl) ?_
  refine lv_i2l (pc := 1) (v := (l1 : Int32).toInt64) hx hb dX10_lay_1 rfl ?_
  refine lv_lconst (pc := 2) (v := 0) hx hb dX10_lay_2 (by decide) ?_
  refine lv_ldc2 (pc := 3) (v := 2) hx hb hown (hts _ tw_4_88) dX10_lay_3 ?_
  obtain ⟨t1, e1, hf⟩ := q_ob hf
  refine x_cSn (pc := 6) (st1 := [.int t1]) X E hI (c_X10_in l G e1) ks_X10_85 hd_X10_in ⟨rfl, rfl⟩ (by decide) rfl hl.1 rfl (Nat.le_of_ble_eq_true rfl) dX10_lay_6 ⟨Nat.le_of_ble_eq_true rfl, Nat.le_of_ble_eq_true rfl⟩ rfl (fun H locs hI => ?_)
  refine lv_if_eq (pc := 9) (tgt := 25) hx hb dX10_lay_9 (by decide) (fun c2 => ?_) (fun c2 => ?_)
  · have hf := q_ip c2 hf
    refine lv_iconst (pc := 25) (v := (-1)) hx hb dX10_lay_25 (by decide) ?_
    obtain rfl := Option.some.inj hf
    exact x_iret X hI dX10_lay_26
  · have hf := q_in c2 hf
    refine lv_iload_n (pc := 12) hx hb dX10_lay_12 rfl (lv_at hl 3 rfl) ?_
    refine lv_iconst (pc := 13) (v := (-1)) hx hb dX10_lay_13 (by decide) ?_
    refine lv_icmp_eq (pc := 14) (tgt := 27) hx hb dX10_lay_14 (by decide) (fun c3 => ?_) (fun c3 => ?_)
    · have hf := q_ip c3 hf
      refine lv_iload_n (pc := 27) hx hb dX10_lay_27 rfl (lv_at hl 2 rfl) ?_
      refine lv_i2l (pc := 28) (v := (l2 : Int32).toInt64) hx hb dX10_lay_28 rfl ?_
      refine lv_lconst (pc := 29) (v := 0) hx hb dX10_lay_29 (by decide) ?_
      refine lv_ldc2 (pc := 30) (v := 2) hx hb hown (hts _ tw_4_88) dX10_lay_30 ?_
      obtain ⟨t4, e4, hf⟩ := q_ob hf
      refine x_cSn (pc := 33) (st1 := [.int t4]) X E hI (c_X10_in l G e4) ks_X10_85 hd_X10_in ⟨rfl, rfl⟩ (by decide) rfl hl.1 rfl (Nat.le_of_ble_eq_true rfl) dX10_lay_33 ⟨Nat.le_of_ble_eq_true rfl, Nat.le_of_ble_eq_true rfl⟩ rfl (fun H locs hI => ?_)
      refine lv_if_ne (pc := 36) (tgt := 42) hx hb dX10_lay_36 (by decide) (fun c5 => ?_) (fun c5 => ?_)
      · have hf := q_in c5 hf
        refine lv_iload_n (pc := 42) hx hb dX10_lay_42 rfl (lv_at hl 3 rfl) ?_
        refine lv_iconst (pc := 43) (v := (-1)) hx hb dX10_lay_43 (by decide) ?_
        refine lv_icmp_eq (pc := 44) (tgt := 69) hx hb dX10_lay_44 (by decide) (fun c6 => ?_) (fun c6 => ?_)
        · have hf := q_ip c6 hf
          refine lv_aload_n (pc := 69) hx hb dX10_lay_69 rfl (lv_at hl 0 rfl) ?_
          refine x_get (pc := 70) X E hI inX10 0 rfl rfl 1 (by decide) tw_3_230 rfl dX10_lay_70 ?_
          refine lv_bipush (pc := 73) (v := 37) hx hb dX10_lay_73 (by decide) ?_
          refine lv_iconst (pc := 75) (v := 3) hx hb dX10_lay_75 (by decide) ?_
          refine lv_iload_n (pc := 76) hx hb dX10_lay_76 rfl (lv_at hl 1 rfl) ?_
          refine lv_imul (pc := 77) hx hb dX10_lay_77 ?_
          refine lv_iadd (pc := 78) hx hb dX10_lay_78 ?_
          refine lv_iload_n (pc := 79) hx hb dX10_lay_79 rfl (lv_at hl 2 rfl) ?_
          refine lv_iadd (pc := 80) hx hb dX10_lay_80 ?_
          obtain ⟨t7, e7, hf⟩ := q_ob hf
          refine x_iald (pc := 81) X E hI 1 rfl e7 dX10_lay_81 ?_
          refine lv_istore (pc := 82) (lv' := [(4, .int t7), (0, .ref (h 0)), (1, .int l1), (2, .int l2), (3, .int l3)]) hx hb dX10_lay_82 hl (by decide) rfl (fun ls hl => ?_)
          refine lv_aload_n (pc := 84) hx hb dX10_lay_84 rfl (lv_at hl 1 rfl) ?_
          refine x_get (pc := 85) X E hI inX10 0 rfl rfl 1 (by decide) tw_3_230 rfl dX10_lay_85 ?_
          refine lv_bipush (pc := 88) (v := 37) hx hb dX10_lay_88 (by decide) ?_
          refine lv_iconst (pc := 90) (v := 3) hx hb dX10_lay_90 (by decide) ?_
          refine lv_iload_n (pc := 91) hx hb dX10_lay_91 rfl (lv_at hl 2 rfl) ?_
          refine lv_imul (pc := 92) hx hb dX10_lay_92 ?_
          refine lv_iadd (pc := 93) hx hb dX10_lay_93 ?_
          refine lv_iload_n (pc := 94) hx hb dX10_lay_94 rfl (lv_at hl 3 rfl) ?_
          refine lv_iadd (pc := 95) hx hb dX10_lay_95 ?_
          refine lv_iload_n (pc := 96) hx hb dX10_lay_96 rfl (lv_at hl 4 rfl) ?_
          refine lv_iconst (pc := 97) (v := (-1)) hx hb dX10_lay_97 (by decide) ?_
          refine lv_icmp_ne (pc := 98) (tgt := 106) hx hb dX10_lay_98 (by decide) (fun c8 => ?_) (fun c8 => ?_)
          · have hf := q_in c8 hf
            refine lv_iload_n (pc := 106) hx hb dX10_lay_106 rfl (lv_at hl 4 rfl) ?_
            obtain ⟨t9, e9, hf⟩ := q_ob hf
            refine x_iast (pc := 107) (w' := (mw G h z_thrown t9 z_kept z_isKept z_moveMany z_moves z_hands z_troubles z_troubleSorts z_troubleNumbers z_asked z_paint z_leasts z_isSeen z_classMany z_types z_typeCounts z_typeMany z_text z_signs z_at z_lacks z_clauses z_begun z_letters z_firsts z_seconds z_aside z_sorts z_sizes z_items)) X E hI 1 rfl e9 rfl dX10_lay_107 (fun H locs hI => ?_)
            refine lv_iload (pc := 108) hx hb dX10_lay_108 (lv_at hl 0 rfl) ?_
            obtain rfl := Option.some.inj hf
            exact x_iret X hI dX10_lay_110
          · have hf := q_ip c8 hf
            refine lv_bipush (pc := 101) (v := (-5)) hx hb dX10_lay_101 (by decide) ?_
            refine lv_goto (pc := 103) (tgt := 107) hx hb dX10_lay_103 (by decide) ?_
            obtain ⟨t10, e10, hf⟩ := q_ob hf
            refine x_iast (pc := 107) (w' := (mw G h z_thrown t10 z_kept z_isKept z_moveMany z_moves z_hands z_troubles z_troubleSorts z_troubleNumbers z_asked z_paint z_leasts z_isSeen z_classMany z_types z_typeCounts z_typeMany z_text z_signs z_at z_lacks z_clauses z_begun z_letters z_firsts z_seconds z_aside z_sorts z_sizes z_items)) X E hI 1 rfl e10 rfl dX10_lay_107 (fun H locs hI => ?_)
            refine lv_iload (pc := 108) hx hb dX10_lay_108 (lv_at hl 0 rfl) ?_
            obtain rfl := Option.some.inj hf
            exact x_iret X hI dX10_lay_110
        · have hf := q_in c6 hf
          refine lv_iload_n (pc := 47) hx hb dX10_lay_47 rfl (lv_at hl 1 rfl) ?_
          refine lv_if_le (pc := 48) (tgt := 69) hx hb dX10_lay_48 (by decide) (fun c11 => ?_) (fun c11 => ?_)
          · have hf := q_ip c11 hf
            refine lv_aload_n (pc := 69) hx hb dX10_lay_69 rfl (lv_at hl 0 rfl) ?_
            refine x_get (pc := 70) X E hI inX10 0 rfl rfl 1 (by decide) tw_3_230 rfl dX10_lay_70 ?_
            refine lv_bipush (pc := 73) (v := 37) hx hb dX10_lay_73 (by decide) ?_
            refine lv_iconst (pc := 75) (v := 3) hx hb dX10_lay_75 (by decide) ?_
            refine lv_iload_n (pc := 76) hx hb dX10_lay_76 rfl (lv_at hl 1 rfl) ?_
            refine lv_imul (pc := 77) hx hb dX10_lay_77 ?_
            refine lv_iadd (pc := 78) hx hb dX10_lay_78 ?_
            refine lv_iload_n (pc := 79) hx hb dX10_lay_79 rfl (lv_at hl 2 rfl) ?_
            refine lv_iadd (pc := 80) hx hb dX10_lay_80 ?_
            obtain ⟨t12, e12, hf⟩ := q_ob hf
            refine x_iald (pc := 81) X E hI 1 rfl e12 dX10_lay_81 ?_
            refine lv_istore (pc := 82) (lv' := [(4, .int t12), (0, .ref (h 0)), (1, .int l1), (2, .int l2), (3, .int l3)]) hx hb dX10_lay_82 hl (by decide) rfl (fun ls hl => ?_)
            refine lv_aload_n (pc := 84) hx hb dX10_lay_84 rfl (lv_at hl 1 rfl) ?_
            refine x_get (pc := 85) X E hI inX10 0 rfl rfl 1 (by decide) tw_3_230 rfl dX10_lay_85 ?_
            refine lv_bipush (pc := 88) (v := 37) hx hb dX10_lay_88 (by decide) ?_
            refine lv_iconst (pc := 90) (v := 3) hx hb dX10_lay_90 (by decide) ?_
            refine lv_iload_n (pc := 91) hx hb dX10_lay_91 rfl (lv_at hl 2 rfl) ?_
            refine lv_imul (pc := 92) hx hb dX10_lay_92 ?_
            refine lv_iadd (pc := 93) hx hb dX10_lay_93 ?_
            refine lv_iload_n (pc := 94) hx hb dX10_lay_94 rfl (lv_at hl 3 rfl) ?_
            refine lv_iadd (pc := 95) hx hb dX10_lay_95 ?_
            refine lv_iload_n (pc := 96) hx hb dX10_lay_96 rfl (lv_at hl 4 rfl) ?_
            refine lv_iconst (pc := 97) (v := (-1)) hx hb dX10_lay_97 (by decide) ?_
            refine lv_icmp_ne (pc := 98) (tgt := 106) hx hb dX10_lay_98 (by decide) (fun c13 => ?_) (fun c13 => ?_)
            · have hf := q_in c13 hf
              refine lv_iload_n (pc := 106) hx hb dX10_lay_106 rfl (lv_at hl 4 rfl) ?_
              obtain ⟨t14, e14, hf⟩ := q_ob hf
              refine x_iast (pc := 107) (w' := (mw G h z_thrown t14 z_kept z_isKept z_moveMany z_moves z_hands z_troubles z_troubleSorts z_troubleNumbers z_asked z_paint z_leasts z_isSeen z_classMany z_types z_typeCounts z_typeMany z_text z_signs z_at z_lacks z_clauses z_begun z_letters z_firsts z_seconds z_aside z_sorts z_sizes z_items)) X E hI 1 rfl e14 rfl dX10_lay_107 (fun H locs hI => ?_)
              refine lv_iload (pc := 108) hx hb dX10_lay_108 (lv_at hl 0 rfl) ?_
              obtain rfl := Option.some.inj hf
              exact x_iret X hI dX10_lay_110
            · have hf := q_ip c13 hf
              refine lv_bipush (pc := 101) (v := (-5)) hx hb dX10_lay_101 (by decide) ?_
              refine lv_goto (pc := 103) (tgt := 107) hx hb dX10_lay_103 (by decide) ?_
              obtain ⟨t15, e15, hf⟩ := q_ob hf
              refine x_iast (pc := 107) (w' := (mw G h z_thrown t15 z_kept z_isKept z_moveMany z_moves z_hands z_troubles z_troubleSorts z_troubleNumbers z_asked z_paint z_leasts z_isSeen z_classMany z_types z_typeCounts z_typeMany z_text z_signs z_at z_lacks z_clauses z_begun z_letters z_firsts z_seconds z_aside z_sorts z_sizes z_items)) X E hI 1 rfl e15 rfl dX10_lay_107 (fun H locs hI => ?_)
              refine lv_iload (pc := 108) hx hb dX10_lay_108 (lv_at hl 0 rfl) ?_
              obtain rfl := Option.some.inj hf
              exact x_iret X hI dX10_lay_110
          · have hf := q_in c11 hf
            refine lv_aload_n (pc := 51) hx hb dX10_lay_51 rfl (lv_at hl 0 rfl) ?_
            refine x_get (pc := 52) X E hI inX10 0 rfl rfl 1 (by decide) tw_3_230 rfl dX10_lay_52 ?_
            refine lv_bipush (pc := 55) (v := 33) hx hb dX10_lay_55 (by decide) ?_
            refine lv_iload_n (pc := 57) hx hb dX10_lay_57 rfl (lv_at hl 3 rfl) ?_
            refine lv_iadd (pc := 58) hx hb dX10_lay_58 ?_
            obtain ⟨t16, e16, hf⟩ := q_ob hf
            refine x_iald (pc := 59) X E hI 1 rfl e16 dX10_lay_59 ?_
            refine lv_iload_n (pc := 60) hx hb dX10_lay_60 rfl (lv_at hl 1 rfl) ?_
            refine lv_iconst (pc := 61) (v := 1) hx hb dX10_lay_61 (by decide) ?_
            refine lv_isub (pc := 62) hx hb dX10_lay_62 ?_
            refine lv_icmp_eq (pc := 63) (tgt := 69) hx hb dX10_lay_63 (by decide) (fun c17 => ?_) (fun c17 => ?_)
            · have hf := q_ip c17 hf
              refine lv_aload_n (pc := 69) hx hb dX10_lay_69 rfl (lv_at hl 0 rfl) ?_
              refine x_get (pc := 70) X E hI inX10 0 rfl rfl 1 (by decide) tw_3_230 rfl dX10_lay_70 ?_
              refine lv_bipush (pc := 73) (v := 37) hx hb dX10_lay_73 (by decide) ?_
              refine lv_iconst (pc := 75) (v := 3) hx hb dX10_lay_75 (by decide) ?_
              refine lv_iload_n (pc := 76) hx hb dX10_lay_76 rfl (lv_at hl 1 rfl) ?_
              refine lv_imul (pc := 77) hx hb dX10_lay_77 ?_
              refine lv_iadd (pc := 78) hx hb dX10_lay_78 ?_
              refine lv_iload_n (pc := 79) hx hb dX10_lay_79 rfl (lv_at hl 2 rfl) ?_
              refine lv_iadd (pc := 80) hx hb dX10_lay_80 ?_
              obtain ⟨t18, e18, hf⟩ := q_ob hf
              refine x_iald (pc := 81) X E hI 1 rfl e18 dX10_lay_81 ?_
              refine lv_istore (pc := 82) (lv' := [(4, .int t18), (0, .ref (h 0)), (1, .int l1), (2, .int l2), (3, .int l3)]) hx hb dX10_lay_82 hl (by decide) rfl (fun ls hl => ?_)
              refine lv_aload_n (pc := 84) hx hb dX10_lay_84 rfl (lv_at hl 1 rfl) ?_
              refine x_get (pc := 85) X E hI inX10 0 rfl rfl 1 (by decide) tw_3_230 rfl dX10_lay_85 ?_
              refine lv_bipush (pc := 88) (v := 37) hx hb dX10_lay_88 (by decide) ?_
              refine lv_iconst (pc := 90) (v := 3) hx hb dX10_lay_90 (by decide) ?_
              refine lv_iload_n (pc := 91) hx hb dX10_lay_91 rfl (lv_at hl 2 rfl) ?_
              refine lv_imul (pc := 92) hx hb dX10_lay_92 ?_
              refine lv_iadd (pc := 93) hx hb dX10_lay_93 ?_
              refine lv_iload_n (pc := 94) hx hb dX10_lay_94 rfl (lv_at hl 3 rfl) ?_
              refine lv_iadd (pc := 95) hx hb dX10_lay_95 ?_
              refine lv_iload_n (pc := 96) hx hb dX10_lay_96 rfl (lv_at hl 4 rfl) ?_
              refine lv_iconst (pc := 97) (v := (-1)) hx hb dX10_lay_97 (by decide) ?_
              refine lv_icmp_ne (pc := 98) (tgt := 106) hx hb dX10_lay_98 (by decide) (fun c19 => ?_) (fun c19 => ?_)
              · have hf := q_in c19 hf
                refine lv_iload_n (pc := 106) hx hb dX10_lay_106 rfl (lv_at hl 4 rfl) ?_
                obtain ⟨t20, e20, hf⟩ := q_ob hf
                refine x_iast (pc := 107) (w' := (mw G h z_thrown t20 z_kept z_isKept z_moveMany z_moves z_hands z_troubles z_troubleSorts z_troubleNumbers z_asked z_paint z_leasts z_isSeen z_classMany z_types z_typeCounts z_typeMany z_text z_signs z_at z_lacks z_clauses z_begun z_letters z_firsts z_seconds z_aside z_sorts z_sizes z_items)) X E hI 1 rfl e20 rfl dX10_lay_107 (fun H locs hI => ?_)
                refine lv_iload (pc := 108) hx hb dX10_lay_108 (lv_at hl 0 rfl) ?_
                obtain rfl := Option.some.inj hf
                exact x_iret X hI dX10_lay_110
              · have hf := q_ip c19 hf
                refine lv_bipush (pc := 101) (v := (-5)) hx hb dX10_lay_101 (by decide) ?_
                refine lv_goto (pc := 103) (tgt := 107) hx hb dX10_lay_103 (by decide) ?_
                obtain ⟨t21, e21, hf⟩ := q_ob hf
                refine x_iast (pc := 107) (w' := (mw G h z_thrown t21 z_kept z_isKept z_moveMany z_moves z_hands z_troubles z_troubleSorts z_troubleNumbers z_asked z_paint z_leasts z_isSeen z_classMany z_types z_typeCounts z_typeMany z_text z_signs z_at z_lacks z_clauses z_begun z_letters z_firsts z_seconds z_aside z_sorts z_sizes z_items)) X E hI 1 rfl e21 rfl dX10_lay_107 (fun H locs hI => ?_)
                refine lv_iload (pc := 108) hx hb dX10_lay_108 (lv_at hl 0 rfl) ?_
                obtain rfl := Option.some.inj hf
                exact x_iret X hI dX10_lay_110
            · have hf := q_in c17 hf
              refine lv_bipush (pc := 66) (v := (-12)) hx hb dX10_lay_66 (by decide) ?_
              obtain rfl := Option.some.inj hf
              exact x_iret X hI dX10_lay_68
      · have hf := q_ip c5 hf
        refine lv_bipush (pc := 39) (v := (-13)) hx hb dX10_lay_39 (by decide) ?_
        obtain rfl := Option.some.inj hf
        exact x_iret X hI dX10_lay_41
    · have hf := q_in c3 hf
      refine lv_aload_n (pc := 17) hx hb dX10_lay_17 rfl (lv_at hl 0 rfl) ?_
      refine lv_iload_n (pc := 18) hx hb dX10_lay_18 rfl (lv_at hl 3 rfl) ?_
      obtain ⟨t22, e22, hf⟩ := q_ob hf
      refine x_cVs (pc := 19) (st1 := [.int t22]) (w1 := (mw G h z_thrown z_s z_kept z_isKept z_moveMany z_moves z_hands z_troubles z_troubleSorts z_troubleNumbers z_asked z_paint z_leasts z_isSeen z_classMany z_types z_typeCounts z_typeMany z_text z_signs z_at z_lacks z_clauses z_begun z_letters z_firsts z_seconds z_aside z_sorts z_sizes z_items)) X E hI (c_X10_isGenerator l G h e22) kv_X10_150 hd_X10_isGenerator ⟨rfl, rfl⟩ (by decide) 0 rfl rfl rfl rfl hl.1 rfl (Nat.le_of_ble_eq_true rfl) dX10_lay_19 ⟨Nat.le_of_ble_eq_true rfl, Nat.le_of_ble_eq_true rfl⟩ rfl (fun H locs hI => ?_)
      refine lv_if_ne (pc := 22) (tgt := 27) hx hb dX10_lay_22 (by decide) (fun c23 => ?_) (fun c23 => ?_)
      · have hf := q_in c23 hf
        refine lv_iload_n (pc := 27) hx hb dX10_lay_27 rfl (lv_at hl 2 rfl) ?_
        refine lv_i2l (pc := 28) (v := (l2 : Int32).toInt64) hx hb dX10_lay_28 rfl ?_
        refine lv_lconst (pc := 29) (v := 0) hx hb dX10_lay_29 (by decide) ?_
        refine lv_ldc2 (pc := 30) (v := 2) hx hb hown (hts _ tw_4_88) dX10_lay_30 ?_
        obtain ⟨t24, e24, hf⟩ := q_ob hf
        refine x_cSn (pc := 33) (st1 := [.int t24]) X E hI (c_X10_in l G e24) ks_X10_85 hd_X10_in ⟨rfl, rfl⟩ (by decide) rfl hl.1 rfl (Nat.le_of_ble_eq_true rfl) dX10_lay_33 ⟨Nat.le_of_ble_eq_true rfl, Nat.le_of_ble_eq_true rfl⟩ rfl (fun H locs hI => ?_)
        refine lv_if_ne (pc := 36) (tgt := 42) hx hb dX10_lay_36 (by decide) (fun c25 => ?_) (fun c25 => ?_)
        · have hf := q_in c25 hf
          refine lv_iload_n (pc := 42) hx hb dX10_lay_42 rfl (lv_at hl 3 rfl) ?_
          refine lv_iconst (pc := 43) (v := (-1)) hx hb dX10_lay_43 (by decide) ?_
          refine lv_icmp_eq (pc := 44) (tgt := 69) hx hb dX10_lay_44 (by decide) (fun c26 => ?_) (fun c26 => ?_)
          · have hf := q_ip c26 hf
            refine lv_aload_n (pc := 69) hx hb dX10_lay_69 rfl (lv_at hl 0 rfl) ?_
            refine x_get (pc := 70) X E hI inX10 0 rfl rfl 1 (by decide) tw_3_230 rfl dX10_lay_70 ?_
            refine lv_bipush (pc := 73) (v := 37) hx hb dX10_lay_73 (by decide) ?_
            refine lv_iconst (pc := 75) (v := 3) hx hb dX10_lay_75 (by decide) ?_
            refine lv_iload_n (pc := 76) hx hb dX10_lay_76 rfl (lv_at hl 1 rfl) ?_
            refine lv_imul (pc := 77) hx hb dX10_lay_77 ?_
            refine lv_iadd (pc := 78) hx hb dX10_lay_78 ?_
            refine lv_iload_n (pc := 79) hx hb dX10_lay_79 rfl (lv_at hl 2 rfl) ?_
            refine lv_iadd (pc := 80) hx hb dX10_lay_80 ?_
            obtain ⟨t27, e27, hf⟩ := q_ob hf
            refine x_iald (pc := 81) X E hI 1 rfl e27 dX10_lay_81 ?_
            refine lv_istore (pc := 82) (lv' := [(4, .int t27), (0, .ref (h 0)), (1, .int l1), (2, .int l2), (3, .int l3)]) hx hb dX10_lay_82 hl (by decide) rfl (fun ls hl => ?_)
            refine lv_aload_n (pc := 84) hx hb dX10_lay_84 rfl (lv_at hl 1 rfl) ?_
            refine x_get (pc := 85) X E hI inX10 0 rfl rfl 1 (by decide) tw_3_230 rfl dX10_lay_85 ?_
            refine lv_bipush (pc := 88) (v := 37) hx hb dX10_lay_88 (by decide) ?_
            refine lv_iconst (pc := 90) (v := 3) hx hb dX10_lay_90 (by decide) ?_
            refine lv_iload_n (pc := 91) hx hb dX10_lay_91 rfl (lv_at hl 2 rfl) ?_
            refine lv_imul (pc := 92) hx hb dX10_lay_92 ?_
            refine lv_iadd (pc := 93) hx hb dX10_lay_93 ?_
            refine lv_iload_n (pc := 94) hx hb dX10_lay_94 rfl (lv_at hl 3 rfl) ?_
            refine lv_iadd (pc := 95) hx hb dX10_lay_95 ?_
            refine lv_iload_n (pc := 96) hx hb dX10_lay_96 rfl (lv_at hl 4 rfl) ?_
            refine lv_iconst (pc := 97) (v := (-1)) hx hb dX10_lay_97 (by decide) ?_
            refine lv_icmp_ne (pc := 98) (tgt := 106) hx hb dX10_lay_98 (by decide) (fun c28 => ?_) (fun c28 => ?_)
            · have hf := q_in c28 hf
              refine lv_iload_n (pc := 106) hx hb dX10_lay_106 rfl (lv_at hl 4 rfl) ?_
              obtain ⟨t29, e29, hf⟩ := q_ob hf
              refine x_iast (pc := 107) (w' := (mw G h z_thrown t29 z_kept z_isKept z_moveMany z_moves z_hands z_troubles z_troubleSorts z_troubleNumbers z_asked z_paint z_leasts z_isSeen z_classMany z_types z_typeCounts z_typeMany z_text z_signs z_at z_lacks z_clauses z_begun z_letters z_firsts z_seconds z_aside z_sorts z_sizes z_items)) X E hI 1 rfl e29 rfl dX10_lay_107 (fun H locs hI => ?_)
              refine lv_iload (pc := 108) hx hb dX10_lay_108 (lv_at hl 0 rfl) ?_
              obtain rfl := Option.some.inj hf
              exact x_iret X hI dX10_lay_110
            · have hf := q_ip c28 hf
              refine lv_bipush (pc := 101) (v := (-5)) hx hb dX10_lay_101 (by decide) ?_
              refine lv_goto (pc := 103) (tgt := 107) hx hb dX10_lay_103 (by decide) ?_
              obtain ⟨t30, e30, hf⟩ := q_ob hf
              refine x_iast (pc := 107) (w' := (mw G h z_thrown t30 z_kept z_isKept z_moveMany z_moves z_hands z_troubles z_troubleSorts z_troubleNumbers z_asked z_paint z_leasts z_isSeen z_classMany z_types z_typeCounts z_typeMany z_text z_signs z_at z_lacks z_clauses z_begun z_letters z_firsts z_seconds z_aside z_sorts z_sizes z_items)) X E hI 1 rfl e30 rfl dX10_lay_107 (fun H locs hI => ?_)
              refine lv_iload (pc := 108) hx hb dX10_lay_108 (lv_at hl 0 rfl) ?_
              obtain rfl := Option.some.inj hf
              exact x_iret X hI dX10_lay_110
          · have hf := q_in c26 hf
            refine lv_iload_n (pc := 47) hx hb dX10_lay_47 rfl (lv_at hl 1 rfl) ?_
            refine lv_if_le (pc := 48) (tgt := 69) hx hb dX10_lay_48 (by decide) (fun c31 => ?_) (fun c31 => ?_)
            · have hf := q_ip c31 hf
              refine lv_aload_n (pc := 69) hx hb dX10_lay_69 rfl (lv_at hl 0 rfl) ?_
              refine x_get (pc := 70) X E hI inX10 0 rfl rfl 1 (by decide) tw_3_230 rfl dX10_lay_70 ?_
              refine lv_bipush (pc := 73) (v := 37) hx hb dX10_lay_73 (by decide) ?_
              refine lv_iconst (pc := 75) (v := 3) hx hb dX10_lay_75 (by decide) ?_
              refine lv_iload_n (pc := 76) hx hb dX10_lay_76 rfl (lv_at hl 1 rfl) ?_
              refine lv_imul (pc := 77) hx hb dX10_lay_77 ?_
              refine lv_iadd (pc := 78) hx hb dX10_lay_78 ?_
              refine lv_iload_n (pc := 79) hx hb dX10_lay_79 rfl (lv_at hl 2 rfl) ?_
              refine lv_iadd (pc := 80) hx hb dX10_lay_80 ?_
              obtain ⟨t32, e32, hf⟩ := q_ob hf
              refine x_iald (pc := 81) X E hI 1 rfl e32 dX10_lay_81 ?_
              refine lv_istore (pc := 82) (lv' := [(4, .int t32), (0, .ref (h 0)), (1, .int l1), (2, .int l2), (3, .int l3)]) hx hb dX10_lay_82 hl (by decide) rfl (fun ls hl => ?_)
              refine lv_aload_n (pc := 84) hx hb dX10_lay_84 rfl (lv_at hl 1 rfl) ?_
              refine x_get (pc := 85) X E hI inX10 0 rfl rfl 1 (by decide) tw_3_230 rfl dX10_lay_85 ?_
              refine lv_bipush (pc := 88) (v := 37) hx hb dX10_lay_88 (by decide) ?_
              refine lv_iconst (pc := 90) (v := 3) hx hb dX10_lay_90 (by decide) ?_
              refine lv_iload_n (pc := 91) hx hb dX10_lay_91 rfl (lv_at hl 2 rfl) ?_
              refine lv_imul (pc := 92) hx hb dX10_lay_92 ?_
              refine lv_iadd (pc := 93) hx hb dX10_lay_93 ?_
              refine lv_iload_n (pc := 94) hx hb dX10_lay_94 rfl (lv_at hl 3 rfl) ?_
              refine lv_iadd (pc := 95) hx hb dX10_lay_95 ?_
              refine lv_iload_n (pc := 96) hx hb dX10_lay_96 rfl (lv_at hl 4 rfl) ?_
              refine lv_iconst (pc := 97) (v := (-1)) hx hb dX10_lay_97 (by decide) ?_
              refine lv_icmp_ne (pc := 98) (tgt := 106) hx hb dX10_lay_98 (by decide) (fun c33 => ?_) (fun c33 => ?_)
              · have hf := q_in c33 hf
                refine lv_iload_n (pc := 106) hx hb dX10_lay_106 rfl (lv_at hl 4 rfl) ?_
                obtain ⟨t34, e34, hf⟩ := q_ob hf
                refine x_iast (pc := 107) (w' := (mw G h z_thrown t34 z_kept z_isKept z_moveMany z_moves z_hands z_troubles z_troubleSorts z_troubleNumbers z_asked z_paint z_leasts z_isSeen z_classMany z_types z_typeCounts z_typeMany z_text z_signs z_at z_lacks z_clauses z_begun z_letters z_firsts z_seconds z_aside z_sorts z_sizes z_items)) X E hI 1 rfl e34 rfl dX10_lay_107 (fun H locs hI => ?_)
                refine lv_iload (pc := 108) hx hb dX10_lay_108 (lv_at hl 0 rfl) ?_
                obtain rfl := Option.some.inj hf
                exact x_iret X hI dX10_lay_110
              · have hf := q_ip c33 hf
                refine lv_bipush (pc := 101) (v := (-5)) hx hb dX10_lay_101 (by decide) ?_
                refine lv_goto (pc := 103) (tgt := 107) hx hb dX10_lay_103 (by decide) ?_
                obtain ⟨t35, e35, hf⟩ := q_ob hf
                refine x_iast (pc := 107) (w' := (mw G h z_thrown t35 z_kept z_isKept z_moveMany z_moves z_hands z_troubles z_troubleSorts z_troubleNumbers z_asked z_paint z_leasts z_isSeen z_classMany z_types z_typeCounts z_typeMany z_text z_signs z_at z_lacks z_clauses z_begun z_letters z_firsts z_seconds z_aside z_sorts z_sizes z_items)) X E hI 1 rfl e35 rfl dX10_lay_107 (fun H locs hI => ?_)
                refine lv_iload (pc := 108) hx hb dX10_lay_108 (lv_at hl 0 rfl) ?_
                obtain rfl := Option.some.inj hf
                exact x_iret X hI dX10_lay_110
            · have hf := q_in c31 hf
              refine lv_aload_n (pc := 51) hx hb dX10_lay_51 rfl (lv_at hl 0 rfl) ?_
              refine x_get (pc := 52) X E hI inX10 0 rfl rfl 1 (by decide) tw_3_230 rfl dX10_lay_52 ?_
              refine lv_bipush (pc := 55) (v := 33) hx hb dX10_lay_55 (by decide) ?_
              refine lv_iload_n (pc := 57) hx hb dX10_lay_57 rfl (lv_at hl 3 rfl) ?_
              refine lv_iadd (pc := 58) hx hb dX10_lay_58 ?_
              obtain ⟨t36, e36, hf⟩ := q_ob hf
              refine x_iald (pc := 59) X E hI 1 rfl e36 dX10_lay_59 ?_
              refine lv_iload_n (pc := 60) hx hb dX10_lay_60 rfl (lv_at hl 1 rfl) ?_
              refine lv_iconst (pc := 61) (v := 1) hx hb dX10_lay_61 (by decide) ?_
              refine lv_isub (pc := 62) hx hb dX10_lay_62 ?_
              refine lv_icmp_eq (pc := 63) (tgt := 69) hx hb dX10_lay_63 (by decide) (fun c37 => ?_) (fun c37 => ?_)
              · have hf := q_ip c37 hf
                refine lv_aload_n (pc := 69) hx hb dX10_lay_69 rfl (lv_at hl 0 rfl) ?_
                refine x_get (pc := 70) X E hI inX10 0 rfl rfl 1 (by decide) tw_3_230 rfl dX10_lay_70 ?_
                refine lv_bipush (pc := 73) (v := 37) hx hb dX10_lay_73 (by decide) ?_
                refine lv_iconst (pc := 75) (v := 3) hx hb dX10_lay_75 (by decide) ?_
                refine lv_iload_n (pc := 76) hx hb dX10_lay_76 rfl (lv_at hl 1 rfl) ?_
                refine lv_imul (pc := 77) hx hb dX10_lay_77 ?_
                refine lv_iadd (pc := 78) hx hb dX10_lay_78 ?_
                refine lv_iload_n (pc := 79) hx hb dX10_lay_79 rfl (lv_at hl 2 rfl) ?_
                refine lv_iadd (pc := 80) hx hb dX10_lay_80 ?_
                obtain ⟨t38, e38, hf⟩ := q_ob hf
                refine x_iald (pc := 81) X E hI 1 rfl e38 dX10_lay_81 ?_
                refine lv_istore (pc := 82) (lv' := [(4, .int t38), (0, .ref (h 0)), (1, .int l1), (2, .int l2), (3, .int l3)]) hx hb dX10_lay_82 hl (by decide) rfl (fun ls hl => ?_)
                refine lv_aload_n (pc := 84) hx hb dX10_lay_84 rfl (lv_at hl 1 rfl) ?_
                refine x_get (pc := 85) X E hI inX10 0 rfl rfl 1 (by decide) tw_3_230 rfl dX10_lay_85 ?_
                refine lv_bipush (pc := 88) (v := 37) hx hb dX10_lay_88 (by decide) ?_
                refine lv_iconst (pc := 90) (v := 3) hx hb dX10_lay_90 (by decide) ?_
                refine lv_iload_n (pc := 91) hx hb dX10_lay_91 rfl (lv_at hl 2 rfl) ?_
                refine lv_imul (pc := 92) hx hb dX10_lay_92 ?_
                refine lv_iadd (pc := 93) hx hb dX10_lay_93 ?_
                refine lv_iload_n (pc := 94) hx hb dX10_lay_94 rfl (lv_at hl 3 rfl) ?_
                refine lv_iadd (pc := 95) hx hb dX10_lay_95 ?_
                refine lv_iload_n (pc := 96) hx hb dX10_lay_96 rfl (lv_at hl 4 rfl) ?_
                refine lv_iconst (pc := 97) (v := (-1)) hx hb dX10_lay_97 (by decide) ?_
                refine lv_icmp_ne (pc := 98) (tgt := 106) hx hb dX10_lay_98 (by decide) (fun c39 => ?_) (fun c39 => ?_)
                · have hf := q_in c39 hf
                  refine lv_iload_n (pc := 106) hx hb dX10_lay_106 rfl (lv_at hl 4 rfl) ?_
                  obtain ⟨t40, e40, hf⟩ := q_ob hf
                  refine x_iast (pc := 107) (w' := (mw G h z_thrown t40 z_kept z_isKept z_moveMany z_moves z_hands z_troubles z_troubleSorts z_troubleNumbers z_asked z_paint z_leasts z_isSeen z_classMany z_types z_typeCounts z_typeMany z_text z_signs z_at z_lacks z_clauses z_begun z_letters z_firsts z_seconds z_aside z_sorts z_sizes z_items)) X E hI 1 rfl e40 rfl dX10_lay_107 (fun H locs hI => ?_)
                  refine lv_iload (pc := 108) hx hb dX10_lay_108 (lv_at hl 0 rfl) ?_
                  obtain rfl := Option.some.inj hf
                  exact x_iret X hI dX10_lay_110
                · have hf := q_ip c39 hf
                  refine lv_bipush (pc := 101) (v := (-5)) hx hb dX10_lay_101 (by decide) ?_
                  refine lv_goto (pc := 103) (tgt := 107) hx hb dX10_lay_103 (by decide) ?_
                  obtain ⟨t41, e41, hf⟩ := q_ob hf
                  refine x_iast (pc := 107) (w' := (mw G h z_thrown t41 z_kept z_isKept z_moveMany z_moves z_hands z_troubles z_troubleSorts z_troubleNumbers z_asked z_paint z_leasts z_isSeen z_classMany z_types z_typeCounts z_typeMany z_text z_signs z_at z_lacks z_clauses z_begun z_letters z_firsts z_seconds z_aside z_sorts z_sizes z_items)) X E hI 1 rfl e41 rfl dX10_lay_107 (fun H locs hI => ?_)
                  refine lv_iload (pc := 108) hx hb dX10_lay_108 (lv_at hl 0 rfl) ?_
                  obtain rfl := Option.some.inj hf
                  exact x_iret X hI dX10_lay_110
              · have hf := q_in c37 hf
                refine lv_bipush (pc := 66) (v := (-12)) hx hb dX10_lay_66 (by decide) ?_
                obtain rfl := Option.some.inj hf
                exact x_iret X hI dX10_lay_68
        · have hf := q_ip c25 hf
          refine lv_bipush (pc := 39) (v := (-13)) hx hb dX10_lay_39 (by decide) ?_
          obtain rfl := Option.some.inj hf
          exact x_iret X hI dX10_lay_41
      · have hf := q_ip c23 hf
        refine lv_iconst (pc := 25) (v := (-1)) hx hb dX10_lay_25 (by decide) ?_
        obtain rfl := Option.some.inj hf
        exact x_iret X hI dX10_lay_26

abbrev rm_X10_product : Room := { frames := 2, cells := 0, slots := 0, locals := 45 }
set_option maxHeartbeats 4000000 in
set_option maxRecDepth 100000 in
theorem k_X10_product_L7 {p : Program} {l : Launch} {e : Env} {s : State} {m : MethodId} {args : Array Value} {below : List Frame} {meth : Method} {c : Code} {A : Nat → Prop} {G : GX} {h : Nat → Nat} {l1 : Int32} {l2 : Int32} {z_thrown : Int32} {z_s : Nat → Int32} {z_kept : Nat → Int32} {z_isKept : Int32} {z_moveMany : Int32} {z_hands : Nat → Int32} {z_troubles : Int32} {z_troubleSorts : Nat → Int32} {z_troubleNumbers : Nat → Int32} {z_asked : Nat → Int32} {z_paint : Nat → Int32} {z_leasts : Nat → Int32} {z_isSeen : Nat → Int32} {z_classMany : Int32} {z_types : Nat → Int32} {z_typeCounts : Nat → Int32} {z_typeMany : Int32} {z_text : Nat → Int32} {z_signs : Int32} {z_at : Int32} {z_lacks : Int32} {z_clauses : Int32} {z_begun : Int32} {z_letters : Nat → Int32} {z_firsts : Nat → Int32} {z_seconds : Nat → Int32} {z_aside : Nat → Int32} {z_sorts : Nat → Int32} {z_sizes : Nat → Int32} {z_items : Nat → Int64} {K : Int32 → (Nat → Int32) → Option (Int32 × Int32 × (Nat → Int32) × (Nat → Int32))} {res : Int32 × Int32 × (Nat → Int32) × (Nat → Int32)} (X : CX RX10 cX10_product 6 (some .int) p s m args meth c) (E : EX G A s)
    (hK : ∀ (l3 : Int32) (z_moves : (Nat → Int32)) (H : Heap) (locs : List Loc) (ls : Array Slot), IN A G (mw G h z_thrown z_s z_kept z_isKept z_moveMany z_moves z_hands z_troubles z_troubleSorts z_troubleNumbers z_asked z_paint z_leasts z_isSeen z_classMany z_types z_typeCounts z_typeMany z_text z_signs z_at z_lacks z_clauses z_begun z_letters z_firsts z_seconds z_aside z_sorts z_sizes z_items) s H locs → lv_has ls 6 [(0, .ref (h 0)), (1, .int l1), (2, .int l2), (3, .int l3)] → K l3 z_moves = some res → W p l e rm_X10_product s m args below meth c H locs 0 0 (MQ below (QX G A (mw G h z_thrown z_s z_kept z_isKept res.2.1 res.2.2.1 res.2.2.2 z_troubles z_troubleSorts z_troubleNumbers z_asked z_paint z_leasts z_isSeen z_classMany z_types z_typeCounts z_typeMany z_text z_signs z_at z_lacks z_clauses z_begun z_letters z_firsts z_seconds z_aside z_sorts z_sizes z_items) (some (.int res.1))) args s 0 0 A) (F0 m 26 ls [])) :
    ∀ {k : Nat} {l3 : Int32} {z_moves : (Nat → Int32)} {H : Heap} {locs : List Loc} {ls : Array Slot}, IN A G (mw G h z_thrown z_s z_kept z_isKept z_moveMany z_moves z_hands z_troubles z_troubleSorts z_troubleNumbers z_asked z_paint z_leasts z_isSeen z_classMany z_types z_typeCounts z_typeMany z_text z_signs z_at z_lacks z_clauses z_begun z_letters z_firsts z_seconds z_aside z_sorts z_sizes z_items) s H locs → lv_has ls 6 [(0, .ref (h 0)), (1, .int l1), (2, .int l2), (3, .int l3)] → f_X10_product_L7 l1 l2 K k l3 z_moves = some res → W p l e rm_X10_product s m args below meth c H locs 0 0 (MQ below (QX G A (mw G h z_thrown z_s z_kept z_isKept res.2.1 res.2.2.1 res.2.2.2 z_troubles z_troubleSorts z_troubleNumbers z_asked z_paint z_leasts z_isSeen z_classMany z_types z_typeCounts z_typeMany z_text z_signs z_at z_lacks z_clauses z_begun z_letters z_firsts z_seconds z_aside z_sorts z_sizes z_items) (some (.int res.1))) args s 0 0 A) (F0 m 7 ls []) := by
  obtain ⟨hx, hb, hml, hown, hts, hr, hlk⟩ := id X
  intro k
  induction k with
  | zero => intro l3 z_moves H locs ls hI hl hf; exact nomatch (show none = some res from hf)
  | succ k ih =>
    intro l3 z_moves H locs ls hI hl hf
    rw [f_X10_product_L7] at hf
    refine lv_iload_n (pc := 7) hx hb dX10_product_7 rfl (lv_at hl 3 rfl) ?_
    refine lv_bipush (pc := 8) (v := 6) hx hb dX10_product_8 (by decide) ?_
    refine lv_icmp_ge (pc := 10) (tgt := 26) hx hb dX10_product_10 (by decide) (fun c1 => ?_) (fun c1 => ?_)
    · have hf := q_ip c1 hf
      exact hK _ _ _ _ _ hI (lv_sub hl [0, 1, 2, 3] rfl) hf
    · have hf := q_in c1 hf
      refine lv_aload_n (pc := 13) hx hb dX10_product_13 rfl (lv_at hl 0 rfl) ?_
      refine x_get (pc := 14) X E hI inX10 0 rfl rfl 5 (by decide) tw_3_234 rfl dX10_product_14 ?_
      refine lv_iload_n (pc := 17) hx hb dX10_product_17 rfl (lv_at hl 3 rfl) ?_
      refine lv_iload_n (pc := 18) hx hb dX10_product_18 rfl (lv_at hl 3 rfl) ?_
      obtain ⟨t2, e2, hf⟩ := q_ob hf
      refine x_iast (pc := 19) (w' := (mw G h z_thrown z_s z_kept z_isKept z_moveMany t2 z_hands z_troubles z_troubleSorts z_troubleNumbers z_asked z_paint z_leasts z_isSeen z_classMany z_types z_typeCounts z_typeMany z_text z_signs z_at z_lacks z_clauses z_begun z_letters z_firsts z_seconds z_aside z_sorts z_sizes z_items)) X E hI 3 rfl e2 rfl dX10_product_19 (fun H locs hI => ?_)
      refine lv_iinc (pc := 20) (v := l3 + 1) (lv' := [(3, .int (l3 + 1)), (0, .ref (h 0)), (1, .int l1), (2, .int l2)]) hx hb dX10_product_20 hl (k := 3) rfl rfl (by decide) rfl (fun ls hl => ?_)
      refine lv_goto (pc := 23) (tgt := 7) hx hb dX10_product_23 (by decide) ?_
      exact ih hI (lv_sub hl [1, 2, 3, 0] rfl) hf

set_option maxHeartbeats 4000000 in
set_option maxRecDepth 100000 in
theorem k_X10_product_L80 {p : Program} {l : Launch} {e : Env} {s : State} {m : MethodId} {args : Array Value} {below : List Frame} {meth : Method} {c : Code} {A : Nat → Prop} {G : GX} {h : Nat → Nat} {l1 : Int32} {l2 : Int32} {l3 : Int32} {z_thrown : Int32} {z_s : Nat → Int32} {z_kept : Nat → Int32} {z_isKept : Int32} {z_moveMany : Int32} {z_hands : Nat → Int32} {z_troubles : Int32} {z_troubleSorts : Nat → Int32} {z_troubleNumbers : Nat → Int32} {z_asked : Nat → Int32} {z_paint : Nat → Int32} {z_leasts : Nat → Int32} {z_isSeen : Nat → Int32} {z_classMany : Int32} {z_types : Nat → Int32} {z_typeCounts : Nat → Int32} {z_typeMany : Int32} {z_text : Nat → Int32} {z_signs : Int32} {z_at : Int32} {z_lacks : Int32} {z_clauses : Int32} {z_begun : Int32} {z_letters : Nat → Int32} {z_firsts : Nat → Int32} {z_seconds : Nat → Int32} {z_aside : Nat → Int32} {z_sorts : Nat → Int32} {z_sizes : Nat → Int32} {z_items : Nat → Int64} {K : Int32 → (Nat → Int32) → Option (Int32 × Int32 × (Nat → Int32) × (Nat → Int32))} {res : Int32 × Int32 × (Nat → Int32) × (Nat → Int32)} (X : CX RX10 cX10_product 6 (some .int) p s m args meth c) (E : EX G A s)
    (hK : ∀ (l5 : Int32) (z_moves : (Nat → Int32)) (H : Heap) (locs : List Loc) (ls : Array Slot), IN A G (mw G h z_thrown z_s z_kept z_isKept z_moveMany z_moves z_hands z_troubles z_troubleSorts z_troubleNumbers z_asked z_paint z_leasts z_isSeen z_classMany z_types z_typeCounts z_typeMany z_text z_signs z_at z_lacks z_clauses z_begun z_letters z_firsts z_seconds z_aside z_sorts z_sizes z_items) s H locs → lv_has ls 6 [(0, .ref (h 0)), (1, .int l1), (2, .int l2), (3, .int l3), (5, .int l5)] → K l5 z_moves = some res → W p l e rm_X10_product s m args below meth c H locs 0 0 (MQ below (QX G A (mw G h z_thrown z_s z_kept z_isKept res.2.1 res.2.2.1 res.2.2.2 z_troubles z_troubleSorts z_troubleNumbers z_asked z_paint z_leasts z_isSeen z_classMany z_types z_typeCounts z_typeMany z_text z_signs z_at z_lacks z_clauses z_begun z_letters z_firsts z_seconds z_aside z_sorts z_sizes z_items) (some (.int res.1))) args s 0 0 A) (F0 m 111 ls [])) :
    ∀ {k : Nat} {l5 : Int32} {z_moves : (Nat → Int32)} {H : Heap} {locs : List Loc} {ls : Array Slot}, IN A G (mw G h z_thrown z_s z_kept z_isKept z_moveMany z_moves z_hands z_troubles z_troubleSorts z_troubleNumbers z_asked z_paint z_leasts z_isSeen z_classMany z_types z_typeCounts z_typeMany z_text z_signs z_at z_lacks z_clauses z_begun z_letters z_firsts z_seconds z_aside z_sorts z_sizes z_items) s H locs → lv_has ls 6 [(0, .ref (h 0)), (1, .int l1), (2, .int l2), (3, .int l3), (5, .int l5)] → f_X10_product_L80 l1 l2 l3 z_s K k l5 z_moves = some res → W p l e rm_X10_product s m args below meth c H locs 0 0 (MQ below (QX G A (mw G h z_thrown z_s z_kept z_isKept res.2.1 res.2.2.1 res.2.2.2 z_troubles z_troubleSorts z_troubleNumbers z_asked z_paint z_leasts z_isSeen z_classMany z_types z_typeCounts z_typeMany z_text z_signs z_at z_lacks z_clauses z_begun z_letters z_firsts z_seconds z_aside z_sorts z_sizes z_items) (some (.int res.1))) args s 0 0 A) (F0 m 80 ls []) := by
  obtain ⟨hx, hb, hml, hown, hts, hr, hlk⟩ := id X
  intro k
  induction k with
  | zero => intro l5 z_moves H locs ls hI hl hf; exact nomatch (show none = some res from hf)
  | succ k ih =>
    intro l5 z_moves H locs ls hI hl hf
    rw [f_X10_product_L80] at hf
    refine lv_iload (pc := 80) hx hb dX10_product_80 (lv_at hl 4 rfl) ?_
    refine lv_aload_n (pc := 82) hx hb dX10_product_82 rfl (lv_at hl 0 rfl) ?_
    refine x_get (pc := 83) X E hI inX10 0 rfl rfl 1 (by decide) tw_3_230 rfl dX10_product_83 ?_
    refine lv_iconst (pc := 86) (v := 0) hx hb dX10_product_86 (by decide) ?_
    obtain ⟨t1, e1, hf⟩ := q_ob hf
    refine x_iald (pc := 87) X E hI 1 rfl e1 dX10_product_87 ?_
    refine lv_icmp_ge (pc := 88) (tgt := 111) hx hb dX10_product_88 (by decide) (fun c2 => ?_) (fun c2 => ?_)
    · have hf := q_ip c2 hf
      exact hK _ _ _ _ _ hI (lv_sub hl [0, 1, 2, 3, 4] rfl) hf
    · have hf := q_in c2 hf
      refine lv_aload_n (pc := 91) hx hb dX10_product_91 rfl (lv_at hl 0 rfl) ?_
      refine x_get (pc := 92) X E hI inX10 0 rfl rfl 5 (by decide) tw_3_234 rfl dX10_product_92 ?_
      refine lv_iload (pc := 95) hx hb dX10_product_95 (lv_at hl 4 rfl) ?_
      refine lv_aload_n (pc := 97) hx hb dX10_product_97 rfl (lv_at hl 0 rfl) ?_
      refine lv_iconst (pc := 98) (v := 1) hx hb dX10_product_98 (by decide) ?_
      refine lv_iload (pc := 99) hx hb dX10_product_99 (lv_at hl 4 rfl) ?_
      obtain ⟨t3, e3, hf⟩ := q_ob hf
      refine x_cVs (pc := 101) (st1 := [.int t3, .int l5, .ref (h 3)]) (w1 := (mw G h z_thrown z_s z_kept z_isKept z_moveMany z_moves z_hands z_troubles z_troubleSorts z_troubleNumbers z_asked z_paint z_leasts z_isSeen z_classMany z_types z_typeCounts z_typeMany z_text z_signs z_at z_lacks z_clauses z_begun z_letters z_firsts z_seconds z_aside z_sorts z_sizes z_items)) X E hI (c_X10_digit l G h e3) kv_X10_95 hd_X10_digit ⟨rfl, rfl⟩ (by decide) 0 rfl rfl rfl rfl hl.1 rfl (Nat.le_of_ble_eq_true rfl) dX10_product_101 ⟨Nat.le_of_ble_eq_true rfl, Nat.le_of_ble_eq_true rfl⟩ rfl (fun H locs hI => ?_)
      obtain ⟨t4, e4, hf⟩ := q_ob hf
      refine x_iast (pc := 104) (w' := (mw G h z_thrown z_s z_kept z_isKept z_moveMany t4 z_hands z_troubles z_troubleSorts z_troubleNumbers z_asked z_paint z_leasts z_isSeen z_classMany z_types z_typeCounts z_typeMany z_text z_signs z_at z_lacks z_clauses z_begun z_letters z_firsts z_seconds z_aside z_sorts z_sizes z_items)) X E hI 3 rfl e4 rfl dX10_product_104 (fun H locs hI => ?_)
      refine lv_iinc (pc := 105) (v := l5 + 1) (lv' := [(5, .int (l5 + 1)), (0, .ref (h 0)), (1, .int l1), (2, .int l2), (3, .int l3)]) hx hb dX10_product_105 hl (k := 4) rfl rfl (by decide) rfl (fun ls hl => ?_)
      refine lv_goto (pc := 108) (tgt := 80) hx hb dX10_product_108 (by decide) ?_
      exact ih hI (lv_sub hl [1, 2, 3, 4, 0] rfl) hf

set_option maxHeartbeats 4000000 in
set_option maxRecDepth 100000 in
theorem k_X10_product_L35 {p : Program} {l : Launch} {e : Env} {s : State} {m : MethodId} {args : Array Value} {below : List Frame} {meth : Method} {c : Code} {A : Nat → Prop} {G : GX} {h : Nat → Nat} {l1 : Int32} {l2 : Int32} {z_thrown : Int32} {z_s : Nat → Int32} {z_kept : Nat → Int32} {z_isKept : Int32} {z_troubles : Int32} {z_troubleSorts : Nat → Int32} {z_troubleNumbers : Nat → Int32} {z_asked : Nat → Int32} {z_paint : Nat → Int32} {z_leasts : Nat → Int32} {z_isSeen : Nat → Int32} {z_classMany : Int32} {z_types : Nat → Int32} {z_typeCounts : Nat → Int32} {z_typeMany : Int32} {z_text : Nat → Int32} {z_signs : Int32} {z_at : Int32} {z_lacks : Int32} {z_clauses : Int32} {z_begun : Int32} {z_letters : Nat → Int32} {z_firsts : Nat → Int32} {z_seconds : Nat → Int32} {z_aside : Nat → Int32} {z_sorts : Nat → Int32} {z_sizes : Nat → Int32} {z_items : Nat → Int64} {K : Int32 → Int32 → (Nat → Int32) → (Nat → Int32) → Option (Int32 × Int32 × (Nat → Int32) × (Nat → Int32))} {res : Int32 × Int32 × (Nat → Int32) × (Nat → Int32)} (X : CX RX10 cX10_product 6 (some .int) p s m args meth c) (E : EX G A s)
    (hK : ∀ (l3 : Int32) (z_moveMany : Int32) (z_moves : (Nat → Int32)) (z_hands : (Nat → Int32)) (H : Heap) (locs : List Loc) (ls : Array Slot), IN A G (mw G h z_thrown z_s z_kept z_isKept z_moveMany z_moves z_hands z_troubles z_troubleSorts z_troubleNumbers z_asked z_paint z_leasts z_isSeen z_classMany z_types z_typeCounts z_typeMany z_text z_signs z_at z_lacks z_clauses z_begun z_letters z_firsts z_seconds z_aside z_sorts z_sizes z_items) s H locs → lv_has ls 6 [(0, .ref (h 0)), (1, .int l1), (2, .int l2), (3, .int l3)] → K l3 z_moveMany z_moves z_hands = some res → W p l e rm_X10_product s m args below meth c H locs 0 0 (MQ below (QX G A (mw G h z_thrown z_s z_kept z_isKept res.2.1 res.2.2.1 res.2.2.2 z_troubles z_troubleSorts z_troubleNumbers z_asked z_paint z_leasts z_isSeen z_classMany z_types z_typeCounts z_typeMany z_text z_signs z_at z_lacks z_clauses z_begun z_letters z_firsts z_seconds z_aside z_sorts z_sizes z_items) (some (.int res.1))) args s 0 0 A) (F0 m 129 ls [])) :
    ∀ {k : Nat} {l3 : Int32} {z_moveMany : Int32} {z_moves : (Nat → Int32)} {z_hands : (Nat → Int32)} {H : Heap} {locs : List Loc} {ls : Array Slot}, IN A G (mw G h z_thrown z_s z_kept z_isKept z_moveMany z_moves z_hands z_troubles z_troubleSorts z_troubleNumbers z_asked z_paint z_leasts z_isSeen z_classMany z_types z_typeCounts z_typeMany z_text z_signs z_at z_lacks z_clauses z_begun z_letters z_firsts z_seconds z_aside z_sorts z_sizes z_items) s H locs → lv_has ls 6 [(0, .ref (h 0)), (1, .int l1), (2, .int l2), (3, .int l3)] → f_X10_product_L35 l1 l2 z_s K k l3 z_moveMany z_moves z_hands = some res → W p l e rm_X10_product s m args below meth c H locs 0 0 (MQ below (QX G A (mw G h z_thrown z_s z_kept z_isKept res.2.1 res.2.2.1 res.2.2.2 z_troubles z_troubleSorts z_troubleNumbers z_asked z_paint z_leasts z_isSeen z_classMany z_types z_typeCounts z_typeMany z_text z_signs z_at z_lacks z_clauses z_begun z_letters z_firsts z_seconds z_aside z_sorts z_sizes z_items) (some (.int res.1))) args s 0 0 A) (F0 m 35 ls []) := by
  obtain ⟨hx, hb, hml, hown, hts, hr, hlk⟩ := id X
  intro k
  induction k with
  | zero => intro l3 z_moveMany z_moves z_hands H locs ls hI hl hf; exact nomatch (show none = some res from hf)
  | succ k ih =>
    intro l3 z_moveMany z_moves z_hands H locs ls hI hl hf
    rw [f_X10_product_L35] at hf
    refine lv_iload_n (pc := 35) hx hb dX10_product_35 rfl (lv_at hl 3 rfl) ?_
    refine lv_iconst (pc := 36) (v := 3) hx hb dX10_product_36 (by decide) ?_
    refine lv_icmp_ge (pc := 37) (tgt := 129) hx hb dX10_product_37 (by decide) (fun c1 => ?_) (fun c1 => ?_)
    · have hf := q_ip c1 hf
      exact hK _ _ _ _ _ _ _ hI (lv_sub hl [0, 1, 2, 3] rfl) hf
    · have hf := q_in c1 hf
      refine lv_aload_n (pc := 40) hx hb dX10_product_40 rfl (lv_at hl 0 rfl) ?_
      refine x_get (pc := 41) X E hI inX10 0 rfl rfl 1 (by decide) tw_3_230 rfl dX10_product_41 ?_
      refine lv_bipush (pc := 44) (v := 37) hx hb dX10_product_44 (by decide) ?_
      refine lv_iconst (pc := 46) (v := 3) hx hb dX10_product_46 (by decide) ?_
      refine lv_iload_n (pc := 47) hx hb dX10_product_47 rfl (lv_at hl 1 rfl) ?_
      refine lv_imul (pc := 48) hx hb dX10_product_48 ?_
      refine lv_iadd (pc := 49) hx hb dX10_product_49 ?_
      refine lv_iload_n (pc := 50) hx hb dX10_product_50 rfl (lv_at hl 3 rfl) ?_
      refine lv_iadd (pc := 51) hx hb dX10_product_51 ?_
      obtain ⟨t2, e2, hf⟩ := q_ob hf
      refine x_iald (pc := 52) X E hI 1 rfl e2 dX10_product_52 ?_
      refine lv_istore (pc := 53) (lv' := [(4, .int t2), (0, .ref (h 0)), (1, .int l1), (2, .int l2), (3, .int l3)]) hx hb dX10_product_53 hl (by decide) rfl (fun ls hl => ?_)
      refine lv_iload (pc := 55) hx hb dX10_product_55 (lv_at hl 0 rfl) ?_
      refine lv_bipush (pc := 57) (v := (-5)) hx hb dX10_product_57 (by decide) ?_
      refine lv_icmp_ne (pc := 59) (tgt := 65) hx hb dX10_product_59 (by decide) (fun c3 => ?_) (fun c3 => ?_)
      · have hf := q_in c3 hf
        refine lv_aload_n (pc := 65) hx hb dX10_product_65 rfl (lv_at hl 1 rfl) ?_
        refine lv_iconst (pc := 66) (v := 1) hx hb dX10_product_66 (by decide) ?_
        refine x_put (pc := 67) (w' := (mw G h z_thrown z_s z_kept z_isKept 1 z_moves z_hands z_troubles z_troubleSorts z_troubleNumbers z_asked z_paint z_leasts z_isSeen z_classMany z_types z_typeCounts z_typeMany z_text z_signs z_at z_lacks z_clauses z_begun z_letters z_firsts z_seconds z_aside z_sorts z_sizes z_items)) X E hI inX10 tyX10 tyX10_ok nmX10 0 rfl rfl 4 (by decide) tw_3_233 rfl rfl rfl (Nat.le_of_ble_eq_true rfl) rfl dX10_product_67 (fun H locs hI => ?_)
        refine lv_aload_n (pc := 70) hx hb dX10_product_70 rfl (lv_at hl 1 rfl) ?_
        refine lv_iconst (pc := 71) (v := 0) hx hb dX10_product_71 (by decide) ?_
        refine lv_iload (pc := 72) hx hb dX10_product_72 (lv_at hl 0 rfl) ?_
        obtain ⟨t4, e4, hf⟩ := q_ob hf
        refine x_cVs (pc := 74) (st1 := []) (w1 := (mw G h z_thrown z_s z_kept z_isKept 1 t4.1 t4.2 z_troubles z_troubleSorts z_troubleNumbers z_asked z_paint z_leasts z_isSeen z_classMany z_types z_typeCounts z_typeMany z_text z_signs z_at z_lacks z_clauses z_begun z_letters z_firsts z_seconds z_aside z_sorts z_sizes z_items)) X E hI (c_X10_goesBehind l G h e4) kv_X10_113 hd_X10_goesBehind ⟨rfl, rfl⟩ (by decide) 0 rfl rfl rfl rfl hl.1 rfl (Nat.le_of_ble_eq_true rfl) dX10_product_74 ⟨Nat.le_of_ble_eq_true rfl, Nat.le_of_ble_eq_true rfl⟩ rfl (fun H locs hI => ?_)
        refine lv_iconst (pc := 77) (v := 0) hx hb dX10_product_77 (by decide) ?_
        refine lv_istore (pc := 78) (lv' := [(5, .int 0), (4, .int t2), (0, .ref (h 0)), (1, .int l1), (2, .int l2), (3, .int l3)]) hx hb dX10_product_78 hl (by decide) rfl (fun ls hl => ?_)
        refine k_X10_product_L80 X E (fun l5_5 z_moves_5 H locs ls hI hl hf => ?_) hI (lv_sub hl [2, 3, 4, 5, 0] rfl) hf
        refine lv_aload_n (pc := 111) hx hb dX10_product_111 rfl (lv_at hl 0 rfl) ?_
        refine x_get (pc := 112) X E hI inX10 0 rfl rfl 6 (by decide) tw_3_235 rfl dX10_product_112 ?_
        refine lv_iconst (pc := 115) (v := 0) hx hb dX10_product_115 (by decide) ?_
        refine lv_aload_n (pc := 116) hx hb dX10_product_116 rfl (lv_at hl 0 rfl) ?_
        refine x_get (pc := 117) X E hI inX10 0 rfl rfl 6 (by decide) tw_3_235 rfl dX10_product_117 ?_
        refine lv_iconst (pc := 120) (v := 1) hx hb dX10_product_120 (by decide) ?_
        obtain ⟨t6, e6, hf⟩ := q_ob hf
        refine x_iald (pc := 121) X E hI 4 rfl e6 dX10_product_121 ?_
        obtain ⟨t7, e7, hf⟩ := q_ob hf
        refine x_iast (pc := 122) (w' := (mw G h z_thrown z_s z_kept z_isKept 1 z_moves_5 t7 z_troubles z_troubleSorts z_troubleNumbers z_asked z_paint z_leasts z_isSeen z_classMany z_types z_typeCounts z_typeMany z_text z_signs z_at z_lacks z_clauses z_begun z_letters z_firsts z_seconds z_aside z_sorts z_sizes z_items)) X E hI 4 rfl e7 rfl dX10_product_122 (fun H locs hI => ?_)
        refine lv_iinc (pc := 123) (v := l3 + 1) (lv' := [(3, .int (l3 + 1)), (0, .ref (h 0)), (1, .int l1), (2, .int l2), (5, .int l5_5)]) hx hb dX10_product_123 hl (k := 3) rfl rfl (by decide) rfl (fun ls hl => ?_)
        refine lv_goto (pc := 126) (tgt := 35) hx hb dX10_product_126 (by decide) ?_
        exact ih hI (lv_sub hl [1, 2, 3, 0] rfl) hf
      · have hf := q_ip c3 hf
        refine lv_goto (pc := 62) (tgt := 123) hx hb dX10_product_62 (by decide) ?_
        refine lv_iinc (pc := 123) (v := l3 + 1) (lv' := [(3, .int (l3 + 1)), (4, .int t2), (0, .ref (h 0)), (1, .int l1), (2, .int l2)]) hx hb dX10_product_123 hl (k := 4) rfl rfl (by decide) rfl (fun ls hl => ?_)
        refine lv_goto (pc := 126) (tgt := 35) hx hb dX10_product_126 (by decide) ?_
        exact ih hI (lv_sub hl [2, 3, 4, 0] rfl) hf

set_option maxHeartbeats 4000000 in
set_option maxRecDepth 100000 in
theorem c_X10_product (l : Launch) (G : GX) (h : Nat → Nat) {l1 : Int32} {l2 : Int32} {z_s : Nat → Int32} {z_moveMany : Int32} {z_moves : Nat → Int32} {z_hands : Nat → Int32} {z_thrown : Int32} {z_kept : Nat → Int32} {z_isKept : Int32} {z_troubles : Int32} {z_troubleSorts : Nat → Int32} {z_troubleNumbers : Nat → Int32} {z_asked : Nat → Int32} {z_paint : Nat → Int32} {z_leasts : Nat → Int32} {z_isSeen : Nat → Int32} {z_classMany : Int32} {z_types : Nat → Int32} {z_typeCounts : Nat → Int32} {z_typeMany : Int32} {z_text : Nat → Int32} {z_signs : Int32} {z_at : Int32} {z_lacks : Int32} {z_clauses : Int32} {z_begun : Int32} {z_letters : Nat → Int32} {z_firsts : Nat → Int32} {z_seconds : Nat → Int32} {z_aside : Nat → Int32} {z_sorts : Nat → Int32} {z_sizes : Nat → Int32} {z_items : Nat → Int64} {res : Int32 × Int32 × (Nat → Int32) × (Nat → Int32)} (hf : f_X10_product l1 l2 z_s z_moveMany z_moves z_hands = some res) : MX l yX10_product cX10_product 6 (some .int) rm_X10_product G (mw G h z_thrown z_s z_kept z_isKept z_moveMany z_moves z_hands z_troubles z_troubleSorts z_troubleNumbers z_asked z_paint z_leasts z_isSeen z_classMany z_types z_typeCounts z_typeMany z_text z_signs z_at z_lacks z_clauses z_begun z_letters z_firsts z_seconds z_aside z_sorts z_sizes z_items) [.ref (h 0), .int l1, .int l2] (mw G h z_thrown z_s z_kept z_isKept res.2.1 res.2.2.1 res.2.2.2 z_troubles z_troubleSorts z_troubleNumbers z_asked z_paint z_leasts z_isSeen z_classMany z_types z_typeCounts z_typeMany z_text z_signs z_at z_lacks z_clauses z_begun z_letters z_firsts z_seconds z_aside z_sorts z_sizes z_items) (some (.int res.1)) 0 0 := by
  refine MX.of (plainFor_of_name (by decide)) (Nat.le_of_ble_eq_true rfl) ?_
  intro p e s m below meth c A X E hI ls hl
  obtain ⟨hx, hb, hml, hown, hts, hr, hlk⟩ := id X
  have hl : lv_has ls 6 [(0, .ref (h 0)), (1, .int l1), (2, .int l2)] := hl
  unfold f_X10_product at hf
  refine lv_aload_n (pc := 0) hx hb dX10_product_0 rfl (lv_at hl 0 rfl) ?_
  refine lv_iconst (pc := 1) (v := 0) hx hb dX10_product_1 (by decide) ?_
  refine x_put (pc := 2) (w' := (mw G h z_thrown z_s z_kept z_isKept 0 z_moves z_hands z_troubles z_troubleSorts z_troubleNumbers z_asked z_paint z_leasts z_isSeen z_classMany z_types z_typeCounts z_typeMany z_text z_signs z_at z_lacks z_clauses z_begun z_letters z_firsts z_seconds z_aside z_sorts z_sizes z_items)) X E hI inX10 tyX10 tyX10_ok nmX10 0 rfl rfl 4 (by decide) tw_3_233 rfl rfl rfl (Nat.le_of_ble_eq_true rfl) rfl dX10_product_2 (fun H locs hI => ?_)
  refine lv_iconst (pc := 5) (v := 0) hx hb dX10_product_5 (by decide) ?_
  refine lv_istore_n (pc := 6) (lv' := [(3, .int 0), (0, .ref (h 0)), (1, .int l1), (2, .int l2)]) hx hb dX10_product_6 rfl hl (by decide) rfl (fun ls hl => ?_)
  refine k_X10_product_L7 X E (fun l3_1 z_moves_1 H locs ls hI hl hf => ?_) hI (lv_sub hl [1, 2, 3, 0] rfl) hf
  refine lv_aload_n (pc := 26) hx hb dX10_product_26 rfl (lv_at hl 0 rfl) ?_
  refine x_get (pc := 27) X E hI inX10 0 rfl rfl 6 (by decide) tw_3_235 rfl dX10_product_27 ?_
  refine lv_iconst (pc := 30) (v := 0) hx hb dX10_product_30 (by decide) ?_
  refine lv_iconst (pc := 31) (v := 0) hx hb dX10_product_31 (by decide) ?_
  obtain ⟨t2, e2, hf⟩ := q_ob hf
  refine x_iast (pc := 32) (w' := (mw G h z_thrown z_s z_kept z_isKept 0 z_moves_1 t2 z_troubles z_troubleSorts z_troubleNumbers z_asked z_paint z_leasts z_isSeen z_classMany z_types z_typeCounts z_typeMany z_text z_signs z_at z_lacks z_clauses z_begun z_letters z_firsts z_seconds z_aside z_sorts z_sizes z_items)) X E hI 4 rfl e2 rfl dX10_product_32 (fun H locs hI => ?_)
  refine lv_iconst (pc := 33) (v := 0) hx hb dX10_product_33 (by decide) ?_
  refine lv_istore_n (pc := 34) (lv' := [(3, .int 0), (0, .ref (h 0)), (1, .int l1), (2, .int l2)]) hx hb dX10_product_34 rfl hl (by decide) rfl (fun ls hl => ?_)
  refine k_X10_product_L35 X E (fun l3_3 z_moveMany_3 z_moves_3 z_hands_3 H locs ls hI hl hf => ?_) hI (lv_sub hl [1, 2, 3, 0] rfl) hf
  refine lv_iload_n (pc := 129) hx hb dX10_product_129 rfl (lv_at hl 2 rfl) ?_
  refine lv_if_ne (pc := 130) (tgt := 141) hx hb dX10_product_130 (by decide) (fun c4 => ?_) (fun c4 => ?_)
  · have hf := q_in c4 hf
    refine lv_aload_n (pc := 141) hx hb dX10_product_141 rfl (lv_at hl 0 rfl) ?_
    refine x_get (pc := 142) X E hI inX10 0 rfl rfl 6 (by decide) tw_3_235 rfl dX10_product_142 ?_
    refine lv_iconst (pc := 145) (v := 0) hx hb dX10_product_145 (by decide) ?_
    obtain ⟨t5, e5, hf⟩ := q_ob hf
    refine x_iald (pc := 146) X E hI 4 rfl e5 dX10_product_146 ?_
    obtain rfl := Option.some.inj hf
    exact x_iret X hI dX10_product_147
  · have hf := q_ip c4 hf
    refine lv_aload_n (pc := 133) hx hb dX10_product_133 rfl (lv_at hl 0 rfl) ?_
    refine lv_iconst (pc := 134) (v := 0) hx hb dX10_product_134 (by decide) ?_
    obtain ⟨t6, e6, hf⟩ := q_ob hf
    refine x_cVs (pc := 135) (st1 := [.int t6]) (w1 := (mw G h z_thrown z_s z_kept z_isKept z_moveMany_3 z_moves_3 z_hands_3 z_troubles z_troubleSorts z_troubleNumbers z_asked z_paint z_leasts z_isSeen z_classMany z_types z_typeCounts z_typeMany z_text z_signs z_at z_lacks z_clauses z_begun z_letters z_firsts z_seconds z_aside z_sorts z_sizes z_items)) X E hI (c_X10_numberOf l G h e6) kv_X10_99 hd_X10_numberOf ⟨rfl, rfl⟩ (by decide) 0 rfl rfl rfl rfl hl.1 rfl (Nat.le_of_ble_eq_true rfl) dX10_product_135 ⟨Nat.le_of_ble_eq_true rfl, Nat.le_of_ble_eq_true rfl⟩ rfl (fun H locs hI => ?_)
    refine lv_goto (pc := 138) (tgt := 147) hx hb dX10_product_138 (by decide) ?_
    obtain rfl := Option.some.inj hf
    exact x_iret X hI dX10_product_147

abbrev rm_X10_rack : Room := { frames := 3, cells := 0, slots := 0, locals := 70 }
set_option maxHeartbeats 4000000 in
set_option maxRecDepth 100000 in
theorem c_X10_rack (l : Launch) (G : GX) (h : Nat → Nat) {l1 : Int32} {l2 : Int32} {z_s : Nat → Int32} {z_moveMany : Int32} {z_moves : Nat → Int32} {z_hands : Nat → Int32} {z_thrown : Int32} {z_kept : Nat → Int32} {z_isKept : Int32} {z_troubles : Int32} {z_troubleSorts : Nat → Int32} {z_troubleNumbers : Nat → Int32} {z_asked : Nat → Int32} {z_paint : Nat → Int32} {z_leasts : Nat → Int32} {z_isSeen : Nat → Int32} {z_classMany : Int32} {z_types : Nat → Int32} {z_typeCounts : Nat → Int32} {z_typeMany : Int32} {z_text : Nat → Int32} {z_signs : Int32} {z_at : Int32} {z_lacks : Int32} {z_clauses : Int32} {z_begun : Int32} {z_letters : Nat → Int32} {z_firsts : Nat → Int32} {z_seconds : Nat → Int32} {z_aside : Nat → Int32} {z_sorts : Nat → Int32} {z_sizes : Nat → Int32} {z_items : Nat → Int64} {res : Int32 × Int32 × (Nat → Int32) × (Nat → Int32)} (hf : f_X10_rack l1 l2 z_s z_moveMany z_moves z_hands = some res) : MX l yX10_rack cX10_rack 3 (some .int) rm_X10_rack G (mw G h z_thrown z_s z_kept z_isKept z_moveMany z_moves z_hands z_troubles z_troubleSorts z_troubleNumbers z_asked z_paint z_leasts z_isSeen z_classMany z_types z_typeCounts z_typeMany z_text z_signs z_at z_lacks z_clauses z_begun z_letters z_firsts z_seconds z_aside z_sorts z_sizes z_items) [.ref (h 0), .int l1, .int l2] (mw G h z_thrown z_s z_kept z_isKept res.2.1 res.2.2.1 res.2.2.2 z_troubles z_troubleSorts z_troubleNumbers z_asked z_paint z_leasts z_isSeen z_classMany z_types z_typeCounts z_typeMany z_text z_signs z_at z_lacks z_clauses z_begun z_letters z_firsts z_seconds z_aside z_sorts z_sizes z_items) (some (.int res.1)) 0 0 := by
  refine MX.of (plainFor_of_name (by decide)) (Nat.le_of_ble_eq_true rfl) ?_
  intro p e s m below meth c A X E hI ls hl
  obtain ⟨hx, hb, hml, hown, hts, hr, hlk⟩ := id X
  have hl : lv_has ls 3 [(0, .ref (h 0)), (1, .int l1), (2, .int l2)] := hl
  unfold f_X10_rack at hf
  refine lv_iload_n (pc := 0) hx hb dX10_rack_0 rfl (lv_at hl 1 rfl) ?_
  refine lv_i2l (pc := 1) (v := (l1 : Int32).toInt64) hx hb dX10_rack_1 rfl ?_
  refine lv_lconst (pc := 2) (v := 0) hx hb dX10_rack_2 (by decide) ?_
  refine lv_ldc2 (pc := 3) (v := 2) hx hb hown (hts _ tw_4_88) dX10_rack_3 ?_
  obtain ⟨t1, e1, hf⟩ := q_ob hf
  refine x_cSn (pc := 6) (st1 := [.int t1]) X E hI (c_X10_in l G e1) ks_X10_85 hd_X10_in ⟨rfl, rfl⟩ (by decide) rfl hl.1 rfl (Nat.le_of_ble_eq_true rfl) dX10_rack_6 ⟨Nat.le_of_ble_eq_true rfl, Nat.le_of_ble_eq_true rfl⟩ rfl (fun H locs hI => ?_)
  refine lv_if_ne (pc := 9) (tgt := 14) hx hb dX10_rack_9 (by decide) (fun c2 => ?_) (fun c2 => ?_)
  · have hf := q_in c2 hf
    refine lv_iload_n (pc := 14) hx hb dX10_rack_14 rfl (lv_at hl 2 rfl) ?_
    refine lv_i2l (pc := 15) (v := (l2 : Int32).toInt64) hx hb dX10_rack_15 rfl ?_
    refine lv_ldc2 (pc := 16) (v := 10) hx hb hown (hts _ tw_4_187) dX10_rack_16 ?_
    refine lv_ldc2 (pc := 19) (v := 12) hx hb hown (hts _ tw_4_188) dX10_rack_19 ?_
    obtain ⟨t3, e3, hf⟩ := q_ob hf
    refine x_cSn (pc := 22) (st1 := [.int t3]) X E hI (c_X10_in l G e3) ks_X10_85 hd_X10_in ⟨rfl, rfl⟩ (by decide) rfl hl.1 rfl (Nat.le_of_ble_eq_true rfl) dX10_rack_22 ⟨Nat.le_of_ble_eq_true rfl, Nat.le_of_ble_eq_true rfl⟩ rfl (fun H locs hI => ?_)
    refine lv_if_eq (pc := 25) (tgt := 45) hx hb dX10_rack_25 (by decide) (fun c4 => ?_) (fun c4 => ?_)
    · have hf := q_ip c4 hf
      refine lv_iload_n (pc := 45) hx hb dX10_rack_45 rfl (lv_at hl 2 rfl) ?_
      refine lv_i2l (pc := 46) (v := (l2 : Int32).toInt64) hx hb dX10_rack_46 rfl ?_
      refine lv_lconst (pc := 47) (v := 0) hx hb dX10_rack_47 (by decide) ?_
      refine lv_lconst (pc := 48) (v := 1) hx hb dX10_rack_48 (by decide) ?_
      obtain ⟨t5, e5, hf⟩ := q_ob hf
      refine x_cSn (pc := 49) (st1 := [.int t5]) X E hI (c_X10_in l G e5) ks_X10_85 hd_X10_in ⟨rfl, rfl⟩ (by decide) rfl hl.1 rfl (Nat.le_of_ble_eq_true rfl) dX10_rack_49 ⟨Nat.le_of_ble_eq_true rfl, Nat.le_of_ble_eq_true rfl⟩ rfl (fun H locs hI => ?_)
      refine lv_if_eq (pc := 52) (tgt := 64) hx hb dX10_rack_52 (by decide) (fun c6 => ?_) (fun c6 => ?_)
      · have hf := q_ip c6 hf
        refine lv_iconst (pc := 64) (v := (-1)) hx hb dX10_rack_64 (by decide) ?_
        obtain rfl := Option.some.inj hf
        exact x_iret X hI dX10_rack_65
      · have hf := q_in c6 hf
        refine lv_aload_n (pc := 55) hx hb dX10_rack_55 rfl (lv_at hl 0 rfl) ?_
        refine lv_iload_n (pc := 56) hx hb dX10_rack_56 rfl (lv_at hl 1 rfl) ?_
        refine lv_iload_n (pc := 57) hx hb dX10_rack_57 rfl (lv_at hl 2 rfl) ?_
        obtain ⟨t7, e7, hf⟩ := q_ob hf
        refine x_cVs (pc := 58) (st1 := [.int t7.1]) (w1 := (mw G h z_thrown z_s z_kept z_isKept t7.2.1 t7.2.2.1 t7.2.2.2 z_troubles z_troubleSorts z_troubleNumbers z_asked z_paint z_leasts z_isSeen z_classMany z_types z_typeCounts z_typeMany z_text z_signs z_at z_lacks z_clauses z_begun z_letters z_firsts z_seconds z_aside z_sorts z_sizes z_items)) X E hI (c_X10_product l G h e7) kv_X10_160 hd_X10_product ⟨rfl, rfl⟩ (by decide) 0 rfl rfl rfl rfl hl.1 rfl (Nat.le_of_ble_eq_true rfl) dX10_rack_58 ⟨Nat.le_of_ble_eq_true rfl, Nat.le_of_ble_eq_true rfl⟩ rfl (fun H locs hI => ?_)
        refine lv_goto (pc := 61) (tgt := 65) hx hb dX10_rack_61 (by decide) ?_
        obtain rfl := Option.some.inj hf
        exact x_iret X hI dX10_rack_65
    · have hf := q_in c4 hf
      refine lv_aload_n (pc := 28) hx hb dX10_rack_28 rfl (lv_at hl 0 rfl) ?_
      refine x_get (pc := 29) X E hI inX10 0 rfl rfl 1 (by decide) tw_3_230 rfl dX10_rack_29 ?_
      refine lv_bipush (pc := 32) (v := 37) hx hb dX10_rack_32 (by decide) ?_
      refine lv_iconst (pc := 34) (v := 3) hx hb dX10_rack_34 (by decide) ?_
      refine lv_iload_n (pc := 35) hx hb dX10_rack_35 rfl (lv_at hl 1 rfl) ?_
      refine lv_imul (pc := 36) hx hb dX10_rack_36 ?_
      refine lv_iadd (pc := 37) hx hb dX10_rack_37 ?_
      refine lv_iload_n (pc := 38) hx hb dX10_rack_38 rfl (lv_at hl 2 rfl) ?_
      refine lv_iadd (pc := 39) hx hb dX10_rack_39 ?_
      refine lv_bipush (pc := 40) (v := 10) hx hb dX10_rack_40 (by decide) ?_
      refine lv_isub (pc := 42) hx hb dX10_rack_42 ?_
      obtain ⟨t8, e8, hf⟩ := q_ob hf
      refine x_iald (pc := 43) X E hI 1 rfl e8 dX10_rack_43 ?_
      obtain rfl := Option.some.inj hf
      exact x_iret X hI dX10_rack_44
  · have hf := q_ip c2 hf
    refine lv_iconst (pc := 12) (v := (-1)) hx hb dX10_rack_12 (by decide) ?_
    obtain rfl := Option.some.inj hf
    exact x_iret X hI dX10_rack_13

abbrev rm_X10_move : Room := { frames := 6, cells := 0, slots := 0, locals := 132 }
set_option maxHeartbeats 4000000 in
set_option maxRecDepth 100000 in
theorem c_X10_move (l : Launch) (G : GX) (h : Nat → Nat) {l1 : Int32} {l2 : Int32} {z_s : Nat → Int32} {z_moveMany : Int32} {z_moves : Nat → Int32} {z_hands : Nat → Int32} {z_asked : Nat → Int32} {z_thrown : Int32} {z_kept : Nat → Int32} {z_isKept : Int32} {z_troubles : Int32} {z_troubleSorts : Nat → Int32} {z_troubleNumbers : Nat → Int32} {z_paint : Nat → Int32} {z_leasts : Nat → Int32} {z_isSeen : Nat → Int32} {z_classMany : Int32} {z_types : Nat → Int32} {z_typeCounts : Nat → Int32} {z_typeMany : Int32} {z_text : Nat → Int32} {z_signs : Int32} {z_at : Int32} {z_lacks : Int32} {z_clauses : Int32} {z_begun : Int32} {z_letters : Nat → Int32} {z_firsts : Nat → Int32} {z_seconds : Nat → Int32} {z_aside : Nat → Int32} {z_sorts : Nat → Int32} {z_sizes : Nat → Int32} {z_items : Nat → Int64} {res : Int32 × Int32 × (Nat → Int32) × (Nat → Int32) × (Nat → Int32)} (hf : f_X10_move l1 l2 z_s z_moveMany z_moves z_hands z_asked = some res) : MX l yX10_move cX10_move 3 (some .int) rm_X10_move G (mw G h z_thrown z_s z_kept z_isKept z_moveMany z_moves z_hands z_troubles z_troubleSorts z_troubleNumbers z_asked z_paint z_leasts z_isSeen z_classMany z_types z_typeCounts z_typeMany z_text z_signs z_at z_lacks z_clauses z_begun z_letters z_firsts z_seconds z_aside z_sorts z_sizes z_items) [.ref (h 0), .int l1, .int l2] (mw G h z_thrown z_s z_kept z_isKept res.2.1 res.2.2.1 res.2.2.2.1 z_troubles z_troubleSorts z_troubleNumbers res.2.2.2.2 z_paint z_leasts z_isSeen z_classMany z_types z_typeCounts z_typeMany z_text z_signs z_at z_lacks z_clauses z_begun z_letters z_firsts z_seconds z_aside z_sorts z_sizes z_items) (some (.int res.1)) 0 0 := by
  refine MX.of (plainFor_of_name (by decide)) (Nat.le_of_ble_eq_true rfl) ?_
  intro p e s m below meth c A X E hI ls hl
  obtain ⟨hx, hb, hml, hown, hts, hr, hlk⟩ := id X
  have hl : lv_has ls 3 [(0, .ref (h 0)), (1, .int l1), (2, .int l2)] := hl
  unfold f_X10_move at hf
  refine lv_aload_n (pc := 0) hx hb dX10_move_0 rfl (lv_at hl 0 rfl) ?_
  obtain ⟨t1, e1, hf⟩ := q_ob hf
  refine x_cVs (pc := 1) (st1 := []) (w1 := (mw G h z_thrown z_s z_kept z_isKept t1.1 t1.2.1 t1.2.2 z_troubles z_troubleSorts z_troubleNumbers z_asked z_paint z_leasts z_isSeen z_classMany z_types z_typeCounts z_typeMany z_text z_signs z_at z_lacks z_clauses z_begun z_letters z_firsts z_seconds z_aside z_sorts z_sizes z_items)) X E hI (c_X10_moves_ l G h e1) kv_X10_163 hd_X10_moves_ ⟨rfl, rfl⟩ (by decide) 0 rfl rfl rfl rfl hl.1 rfl (Nat.le_of_ble_eq_true rfl) dX10_move_1 ⟨Nat.le_of_ble_eq_true rfl, Nat.le_of_ble_eq_true rfl⟩ rfl (fun H locs hI => ?_)
  refine lv_iload_n (pc := 4) hx hb dX10_move_4 rfl (lv_at hl 1 rfl) ?_
  refine lv_i2l (pc := 5) (v := (l1 : Int32).toInt64) hx hb dX10_move_5 rfl ?_
  refine lv_lconst (pc := 6) (v := 0) hx hb dX10_move_6 (by decide) ?_
  refine lv_aload_n (pc := 7) hx hb dX10_move_7 rfl (lv_at hl 0 rfl) ?_
  refine x_get (pc := 8) X E hI inX10 0 rfl rfl 4 (by decide) tw_3_233 rfl dX10_move_8 ?_
  refine lv_iconst (pc := 11) (v := 1) hx hb dX10_move_11 (by decide) ?_
  refine lv_isub (pc := 12) hx hb dX10_move_12 ?_
  refine lv_i2l (pc := 13) (v := (t1.1 - 1 : Int32).toInt64) hx hb dX10_move_13 rfl ?_
  obtain ⟨t2, e2, hf⟩ := q_ob hf
  refine x_cSn (pc := 14) (st1 := [.int t2]) X E hI (c_X10_in l G e2) ks_X10_85 hd_X10_in ⟨rfl, rfl⟩ (by decide) rfl hl.1 rfl (Nat.le_of_ble_eq_true rfl) dX10_move_14 ⟨Nat.le_of_ble_eq_true rfl, Nat.le_of_ble_eq_true rfl⟩ rfl (fun H locs hI => ?_)
  refine lv_if_ne (pc := 17) (tgt := 22) hx hb dX10_move_17 (by decide) (fun c3 => ?_) (fun c3 => ?_)
  · have hf := q_in c3 hf
    refine lv_iload_n (pc := 22) hx hb dX10_move_22 rfl (lv_at hl 2 rfl) ?_
    refine lv_if_ne (pc := 23) (tgt := 34) hx hb dX10_move_23 (by decide) (fun c4 => ?_) (fun c4 => ?_)
    · have hf := q_in c4 hf
      refine lv_iload_n (pc := 34) hx hb dX10_move_34 rfl (lv_at hl 2 rfl) ?_
      refine lv_iconst (pc := 35) (v := 1) hx hb dX10_move_35 (by decide) ?_
      refine lv_icmp_ne (pc := 36) (tgt := 48) hx hb dX10_move_36 (by decide) (fun c5 => ?_) (fun c5 => ?_)
      · have hf := q_in c5 hf
        refine lv_iload_n (pc := 48) hx hb dX10_move_48 rfl (lv_at hl 2 rfl) ?_
        refine lv_iconst (pc := 49) (v := 2) hx hb dX10_move_49 (by decide) ?_
        refine lv_icmp_ne (pc := 50) (tgt := 61) hx hb dX10_move_50 (by decide) (fun c6 => ?_) (fun c6 => ?_)
        · have hf := q_in c6 hf
          refine lv_iconst (pc := 61) (v := (-1)) hx hb dX10_move_61 (by decide) ?_
          obtain rfl := Option.some.inj hf
          exact x_iret X hI dX10_move_62
        · have hf := q_ip c6 hf
          refine lv_aload_n (pc := 53) hx hb dX10_move_53 rfl (lv_at hl 0 rfl) ?_
          refine lv_iload_n (pc := 54) hx hb dX10_move_54 rfl (lv_at hl 1 rfl) ?_
          obtain ⟨t7, e7, hf⟩ := q_ob hf
          refine x_cVs (pc := 55) (st1 := [.int t7.1]) (w1 := (mw G h z_thrown z_s z_kept z_isKept t1.1 t1.2.1 t1.2.2 z_troubles z_troubleSorts z_troubleNumbers t7.2 z_paint z_leasts z_isSeen z_classMany z_types z_typeCounts z_typeMany z_text z_signs z_at z_lacks z_clauses z_begun z_letters z_firsts z_seconds z_aside z_sorts z_sizes z_items)) X E hI (c_X10_typeOf l G h e7) kv_X10_165 hd_X10_typeOf ⟨rfl, rfl⟩ (by decide) 0 rfl rfl rfl rfl hl.1 rfl (Nat.le_of_ble_eq_true rfl) dX10_move_55 ⟨Nat.le_of_ble_eq_true rfl, Nat.le_of_ble_eq_true rfl⟩ rfl (fun H locs hI => ?_)
          refine lv_goto (pc := 58) (tgt := 62) hx hb dX10_move_58 (by decide) ?_
          obtain rfl := Option.some.inj hf
          exact x_iret X hI dX10_move_62
      · have hf := q_ip c5 hf
        refine lv_aload_n (pc := 39) hx hb dX10_move_39 rfl (lv_at hl 0 rfl) ?_
        refine x_get (pc := 40) X E hI inX10 0 rfl rfl 6 (by decide) tw_3_235 rfl dX10_move_40 ?_
        refine lv_iload_n (pc := 43) hx hb dX10_move_43 rfl (lv_at hl 1 rfl) ?_
        obtain ⟨t8, e8, hf⟩ := q_ob hf
        refine x_iald (pc := 44) X E hI 4 rfl e8 dX10_move_44 ?_
        refine lv_goto (pc := 45) (tgt := 62) hx hb dX10_move_45 (by decide) ?_
        obtain rfl := Option.some.inj hf
        exact x_iret X hI dX10_move_62
    · have hf := q_ip c4 hf
      refine lv_aload_n (pc := 26) hx hb dX10_move_26 rfl (lv_at hl 0 rfl) ?_
      refine lv_iload_n (pc := 27) hx hb dX10_move_27 rfl (lv_at hl 1 rfl) ?_
      obtain ⟨t9, e9, hf⟩ := q_ob hf
      refine x_cVs (pc := 28) (st1 := [.int t9]) (w1 := (mw G h z_thrown z_s z_kept z_isKept t1.1 t1.2.1 t1.2.2 z_troubles z_troubleSorts z_troubleNumbers z_asked z_paint z_leasts z_isSeen z_classMany z_types z_typeCounts z_typeMany z_text z_signs z_at z_lacks z_clauses z_begun z_letters z_firsts z_seconds z_aside z_sorts z_sizes z_items)) X E hI (c_X10_numberOf l G h e9) kv_X10_99 hd_X10_numberOf ⟨rfl, rfl⟩ (by decide) 0 rfl rfl rfl rfl hl.1 rfl (Nat.le_of_ble_eq_true rfl) dX10_move_28 ⟨Nat.le_of_ble_eq_true rfl, Nat.le_of_ble_eq_true rfl⟩ rfl (fun H locs hI => ?_)
      refine lv_goto (pc := 31) (tgt := 62) hx hb dX10_move_31 (by decide) ?_
      obtain rfl := Option.some.inj hf
      exact x_iret X hI dX10_move_62
  · have hf := q_ip c3 hf
    refine lv_iconst (pc := 20) (v := (-1)) hx hb dX10_move_20 (by decide) ?_
    obtain rfl := Option.some.inj hf
    exact x_iret X hI dX10_move_21

abbrev rm_X10_paintings : Room := { frames := 0, cells := 0, slots := 0, locals := 0 }
set_option maxHeartbeats 4000000 in
set_option maxRecDepth 100000 in
theorem k_X10_paintings_L4 {p : Program} {l : Launch} {e : Env} {s : State} {m : MethodId} {args : Array Value} {below : List Frame} {meth : Method} {c : Code} {A : Nat → Prop} {G : GX} {h : Nat → Nat} {z_thrown : Int32} {z_s : Nat → Int32} {z_kept : Nat → Int32} {z_isKept : Int32} {z_moveMany : Int32} {z_moves : Nat → Int32} {z_hands : Nat → Int32} {z_troubles : Int32} {z_troubleSorts : Nat → Int32} {z_troubleNumbers : Nat → Int32} {z_asked : Nat → Int32} {z_paint : Nat → Int32} {z_leasts : Nat → Int32} {z_isSeen : Nat → Int32} {z_classMany : Int32} {z_types : Nat → Int32} {z_typeCounts : Nat → Int32} {z_typeMany : Int32} {z_text : Nat → Int32} {z_signs : Int32} {z_at : Int32} {z_lacks : Int32} {z_clauses : Int32} {z_begun : Int32} {z_letters : Nat → Int32} {z_firsts : Nat → Int32} {z_seconds : Nat → Int32} {z_aside : Nat → Int32} {z_sorts : Nat → Int32} {z_sizes : Nat → Int32} {z_items : Nat → Int64} {K : Int32 → Int32 → Option (Int32)} {res : Int32} (X : CX RX10 cX10_paintings 3 (some .int) p s m args meth c) (E : EX G A s)
    (hK : ∀ (l1 : Int32) (l2 : Int32) (H : Heap) (locs : List Loc) (ls : Array Slot), IN A G (mw G h z_thrown z_s z_kept z_isKept z_moveMany z_moves z_hands z_troubles z_troubleSorts z_troubleNumbers z_asked z_paint z_leasts z_isSeen z_classMany z_types z_typeCounts z_typeMany z_text z_signs z_at z_lacks z_clauses z_begun z_letters z_firsts z_seconds z_aside z_sorts z_sizes z_items) s H locs → lv_has ls 3 [(0, .ref (h 0)), (1, .int l1), (2, .int l2)] → K l1 l2 = some res → W p l e rm_X10_paintings s m args below meth c H locs 0 0 (MQ below (QX G A (mw G h z_thrown z_s z_kept z_isKept z_moveMany z_moves z_hands z_troubles z_troubleSorts z_troubleNumbers z_asked z_paint z_leasts z_isSeen z_classMany z_types z_typeCounts z_typeMany z_text z_signs z_at z_lacks z_clauses z_begun z_letters z_firsts z_seconds z_aside z_sorts z_sizes z_items) (some (.int res))) args s 0 0 A) (F0 m 29 ls [])) :
    ∀ {k : Nat} {l1 : Int32} {l2 : Int32} {H : Heap} {locs : List Loc} {ls : Array Slot}, IN A G (mw G h z_thrown z_s z_kept z_isKept z_moveMany z_moves z_hands z_troubles z_troubleSorts z_troubleNumbers z_asked z_paint z_leasts z_isSeen z_classMany z_types z_typeCounts z_typeMany z_text z_signs z_at z_lacks z_clauses z_begun z_letters z_firsts z_seconds z_aside z_sorts z_sizes z_items) s H locs → lv_has ls 3 [(0, .ref (h 0)), (1, .int l1), (2, .int l2)] → f_X10_paintings_L4 z_s K k l1 l2 = some res → W p l e rm_X10_paintings s m args below meth c H locs 0 0 (MQ below (QX G A (mw G h z_thrown z_s z_kept z_isKept z_moveMany z_moves z_hands z_troubles z_troubleSorts z_troubleNumbers z_asked z_paint z_leasts z_isSeen z_classMany z_types z_typeCounts z_typeMany z_text z_signs z_at z_lacks z_clauses z_begun z_letters z_firsts z_seconds z_aside z_sorts z_sizes z_items) (some (.int res))) args s 0 0 A) (F0 m 4 ls []) := by
  obtain ⟨hx, hb, hml, hown, hts, hr, hlk⟩ := id X
  intro k
  induction k with
  | zero => intro l1 l2 H locs ls hI hl hf; exact nomatch (show none = some res from hf)
  | succ k ih =>
    intro l1 l2 H locs ls hI hl hf
    rw [f_X10_paintings_L4] at hf
    refine lv_iload_n (pc := 4) hx hb dX10_paintings_4 rfl (lv_at hl 2 rfl) ?_
    refine lv_aload_n (pc := 5) hx hb dX10_paintings_5 rfl (lv_at hl 0 rfl) ?_
    refine x_get (pc := 6) X E hI inX10 0 rfl rfl 1 (by decide) tw_3_230 rfl dX10_paintings_6 ?_
    refine lv_iconst (pc := 9) (v := 0) hx hb dX10_paintings_9 (by decide) ?_
    obtain ⟨t1, e1, hf⟩ := q_ob hf
    refine x_iald (pc := 10) X E hI 1 rfl e1 dX10_paintings_10 ?_
    refine lv_icmp_ge (pc := 11) (tgt := 29) hx hb dX10_paintings_11 (by decide) (fun c2 => ?_) (fun c2 => ?_)
    · have hf := q_ip c2 hf
      exact hK _ _ _ _ _ hI (lv_sub hl [0, 1, 2] rfl) hf
    · have hf := q_in c2 hf
      refine lv_iload_n (pc := 14) hx hb dX10_paintings_14 rfl (lv_at hl 1 rfl) ?_
      refine lv_aload_n (pc := 15) hx hb dX10_paintings_15 rfl (lv_at hl 0 rfl) ?_
      refine x_get (pc := 16) X E hI inX10 0 rfl rfl 1 (by decide) tw_3_230 rfl dX10_paintings_16 ?_
      refine lv_iconst (pc := 19) (v := 1) hx hb dX10_paintings_19 (by decide) ?_
      obtain ⟨t3, e3, hf⟩ := q_ob hf
      refine x_iald (pc := 20) X E hI 1 rfl e3 dX10_paintings_20 ?_
      refine lv_imul (pc := 21) hx hb dX10_paintings_21 ?_
      refine lv_istore_n (pc := 22) (lv' := [(1, .int (l1 * t3)), (0, .ref (h 0)), (2, .int l2)]) hx hb dX10_paintings_22 rfl hl (by decide) rfl (fun ls hl => ?_)
      refine lv_iinc (pc := 23) (v := l2 + 1) (lv' := [(2, .int (l2 + 1)), (1, .int (l1 * t3)), (0, .ref (h 0))]) hx hb dX10_paintings_23 hl (k := 2) rfl rfl (by decide) rfl (fun ls hl => ?_)
      refine lv_goto (pc := 26) (tgt := 4) hx hb dX10_paintings_26 (by decide) ?_
      exact ih hI (lv_sub hl [2, 1, 0] rfl) hf

set_option maxHeartbeats 4000000 in
set_option maxRecDepth 100000 in
theorem c_X10_paintings (l : Launch) (G : GX) (h : Nat → Nat) {z_s : Nat → Int32} {z_thrown : Int32} {z_kept : Nat → Int32} {z_isKept : Int32} {z_moveMany : Int32} {z_moves : Nat → Int32} {z_hands : Nat → Int32} {z_troubles : Int32} {z_troubleSorts : Nat → Int32} {z_troubleNumbers : Nat → Int32} {z_asked : Nat → Int32} {z_paint : Nat → Int32} {z_leasts : Nat → Int32} {z_isSeen : Nat → Int32} {z_classMany : Int32} {z_types : Nat → Int32} {z_typeCounts : Nat → Int32} {z_typeMany : Int32} {z_text : Nat → Int32} {z_signs : Int32} {z_at : Int32} {z_lacks : Int32} {z_clauses : Int32} {z_begun : Int32} {z_letters : Nat → Int32} {z_firsts : Nat → Int32} {z_seconds : Nat → Int32} {z_aside : Nat → Int32} {z_sorts : Nat → Int32} {z_sizes : Nat → Int32} {z_items : Nat → Int64} {res : Int32} (hf : f_X10_paintings z_s = some res) : MX l yX10_paintings cX10_paintings 3 (some .int) rm_X10_paintings G (mw G h z_thrown z_s z_kept z_isKept z_moveMany z_moves z_hands z_troubles z_troubleSorts z_troubleNumbers z_asked z_paint z_leasts z_isSeen z_classMany z_types z_typeCounts z_typeMany z_text z_signs z_at z_lacks z_clauses z_begun z_letters z_firsts z_seconds z_aside z_sorts z_sizes z_items) [.ref (h 0)] (mw G h z_thrown z_s z_kept z_isKept z_moveMany z_moves z_hands z_troubles z_troubleSorts z_troubleNumbers z_asked z_paint z_leasts z_isSeen z_classMany z_types z_typeCounts z_typeMany z_text z_signs z_at z_lacks z_clauses z_begun z_letters z_firsts z_seconds z_aside z_sorts z_sizes z_items) (some (.int res)) 0 0 := by
  refine MX.of (plainFor_of_name (by decide)) (Nat.le_of_ble_eq_true rfl) ?_
  intro p e s m below meth c A X E hI ls hl
  obtain ⟨hx, hb, hml, hown, hts, hr, hlk⟩ := id X
  have hl : lv_has ls 3 [(0, .ref (h 0))] := hl
  unfold f_X10_paintings at hf
  refine lv_iconst (pc := 0) (v := 1) hx hb dX10_paintings_0 (by decide) ?_
  refine lv_istore_n (pc := 1) (lv' := [(1, .int 1), (0, .ref (h 0))]) hx hb dX10_paintings_1 rfl hl (by decide) rfl (fun ls hl => ?_)
  refine lv_iconst (pc := 2) (v := 0) hx hb dX10_paintings_2 (by decide) ?_
  refine lv_istore_n (pc := 3) (lv' := [(2, .int 0), (1, .int 1), (0, .ref (h 0))]) hx hb dX10_paintings_3 rfl hl (by decide) rfl (fun ls hl => ?_)
  refine k_X10_paintings_L4 X E (fun l1_1 l2_1 H locs ls hI hl hf => ?_) hI (lv_sub hl [2, 1, 0] rfl) hf
  refine lv_iload_n (pc := 29) hx hb dX10_paintings_29 rfl (lv_at hl 1 rfl) ?_
  obtain rfl := Option.some.inj hf
  exact x_iret X hI dX10_paintings_30

