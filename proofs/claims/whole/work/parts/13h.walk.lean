abbrev rm_X10_judge : Room := { frames := 7, cells := 0, slots := 0, locals := 153 }
set_option maxHeartbeats 4000000 in
set_option maxRecDepth 100000 in
theorem k_X10_judge_L64 {p : Program} {l : Launch} {e : Env} {s : State} {m : MethodId} {args : Array Value} {below : List Frame} {meth : Method} {c : Code} {A : Nat → Prop} {G : GX} {h : Nat → Nat} {l2 : Int32} {l3 : Int32} {z_thrown : Int32} {z_s : Nat → Int32} {z_kept : Nat → Int32} {z_isKept : Int32} {z_moveMany : Int32} {z_moves : Nat → Int32} {z_hands : Nat → Int32} {z_troubles : Int32} {z_troubleSorts : Nat → Int32} {z_troubleNumbers : Nat → Int32} {z_asked : Nat → Int32} {z_leasts : Nat → Int32} {z_isSeen : Nat → Int32} {z_classMany : Int32} {z_types : Nat → Int32} {z_typeCounts : Nat → Int32} {z_typeMany : Int32} {z_text : Nat → Int32} {z_signs : Int32} {z_at : Int32} {z_lacks : Int32} {z_clauses : Int32} {z_begun : Int32} {z_letters : Nat → Int32} {z_firsts : Nat → Int32} {z_seconds : Nat → Int32} {z_aside : Nat → Int32} {z_sorts : Nat → Int32} {z_sizes : Nat → Int32} {z_items : Nat → Int64} {K : Int32 → (Nat → Int32) → Option (Int32 × Int32 × (Nat → Int32) × (Nat → Int32) × (Nat → Int32) × (Nat → Int32) × (Nat → Int32) × Int32)} {res : Int32 × Int32 × (Nat → Int32) × (Nat → Int32) × (Nat → Int32) × (Nat → Int32) × (Nat → Int32) × Int32} (X : CX RX10 cX10_judge 5 (some .int) p s m args meth c) (E : EX G A s)
    (hK : ∀ (l4 : Int32) (z_paint : (Nat → Int32)) (H : Heap) (locs : List Loc) (ls : Array Slot), IN A G (mw G h z_thrown z_s z_kept z_isKept z_moveMany z_moves z_hands z_troubles z_troubleSorts z_troubleNumbers z_asked z_paint z_leasts z_isSeen z_classMany z_types z_typeCounts z_typeMany z_text z_signs z_at z_lacks z_clauses z_begun z_letters z_firsts z_seconds z_aside z_sorts z_sizes z_items) s H locs → lv_has ls 5 [(0, .ref (h 0)), (2, .int l2), (3, .int l3), (4, .int l4)] → K l4 z_paint = some res → W p l e rm_X10_judge s m args below meth c H locs 0 0 (MQ below (QX G A (mw G h z_thrown z_s z_kept z_isKept res.2.1 res.2.2.1 res.2.2.2.1 z_troubles z_troubleSorts z_troubleNumbers z_asked res.2.2.2.2.1 res.2.2.2.2.2.1 res.2.2.2.2.2.2.1 res.2.2.2.2.2.2.2 z_types z_typeCounts z_typeMany z_text z_signs z_at z_lacks z_clauses z_begun z_letters z_firsts z_seconds z_aside z_sorts z_sizes z_items) (some (.int res.1))) args s 0 0 A) (F0 m 135 ls [])) :
    ∀ {k : Nat} {l4 : Int32} {z_paint : (Nat → Int32)} {H : Heap} {locs : List Loc} {ls : Array Slot}, IN A G (mw G h z_thrown z_s z_kept z_isKept z_moveMany z_moves z_hands z_troubles z_troubleSorts z_troubleNumbers z_asked z_paint z_leasts z_isSeen z_classMany z_types z_typeCounts z_typeMany z_text z_signs z_at z_lacks z_clauses z_begun z_letters z_firsts z_seconds z_aside z_sorts z_sizes z_items) s H locs → lv_has ls 5 [(0, .ref (h 0)), (2, .int l2), (3, .int l3), (4, .int l4)] → f_X10_judge_L64 l2 l3 z_s z_moveMany z_moves z_hands z_leasts z_isSeen z_classMany z_sizes z_items K k l4 z_paint = some res → W p l e rm_X10_judge s m args below meth c H locs 0 0 (MQ below (QX G A (mw G h z_thrown z_s z_kept z_isKept res.2.1 res.2.2.1 res.2.2.2.1 z_troubles z_troubleSorts z_troubleNumbers z_asked res.2.2.2.2.1 res.2.2.2.2.2.1 res.2.2.2.2.2.2.1 res.2.2.2.2.2.2.2 z_types z_typeCounts z_typeMany z_text z_signs z_at z_lacks z_clauses z_begun z_letters z_firsts z_seconds z_aside z_sorts z_sizes z_items) (some (.int res.1))) args s 0 0 A) (F0 m 64 ls []) := by
  obtain ⟨hx, hb, hml, hown, hts, hr, hlk⟩ := id X
  intro k
  induction k with
  | zero => intro l4 z_paint H locs ls hI hl hf; exact nomatch (show none = some res from hf)
  | succ k ih =>
    intro l4 z_paint H locs ls hI hl hf
    rw [f_X10_judge_L64] at hf
    refine lv_iload (pc := 64) hx hb dX10_judge_64 (lv_at hl 3 rfl) ?_
    refine lv_aload_n (pc := 66) hx hb dX10_judge_66 rfl (lv_at hl 0 rfl) ?_
    refine x_get (pc := 67) X E hI inX10 0 rfl rfl 14 (by decide) tw_4_3 rfl dX10_judge_67 ?_
    refine lv_icmp_ge (pc := 70) (tgt := 135) hx hb dX10_judge_70 (by decide) (fun c1 => ?_) (fun c1 => ?_)
    · have hf := q_ip c1 hf
      exact hK _ _ _ _ _ hI (lv_sub hl [0, 1, 2, 3] rfl) hf
    · have hf := q_in c1 hf
      refine lv_iload_n (pc := 73) hx hb dX10_judge_73 rfl (lv_at hl 2 rfl) ?_
      refine lv_i2l (pc := 74) (v := (l3 : Int32).toInt64) hx hb dX10_judge_74 rfl ?_
      refine lv_iload (pc := 75) hx hb dX10_judge_75 (lv_at hl 3 rfl) ?_
      refine lv_i2l (pc := 77) (v := (l4 : Int32).toInt64) hx hb dX10_judge_77 rfl ?_
      refine lv_ladd (pc := 78) hx hb dX10_judge_78 ?_
      refine lv_aload_n (pc := 79) hx hb dX10_judge_79 rfl (lv_at hl 0 rfl) ?_
      refine x_get (pc := 80) X E hI inX10 0 rfl rfl 29 (by decide) tw_4_18 rfl dX10_judge_80 ?_
      refine lv_iload_n (pc := 83) hx hb dX10_judge_83 rfl (lv_at hl 1 rfl) ?_
      obtain ⟨t2, e2, hf⟩ := q_ob hf
      refine x_iald (pc := 84) X E hI 19 rfl e2 dX10_judge_84 ?_
      refine lv_i2l (pc := 85) (v := (t2 : Int32).toInt64) hx hb dX10_judge_85 rfl ?_
      refine W.lcmp (pc := 86) hx hb dX10_judge_86 ?_
      refine lv_if_lt (pc := 87) (tgt := 96) hx hb dX10_judge_87 (by decide) (fun c3 => ?_) (fun c3 => ?_)
      · have hf := q_ip c3 hf
        refine lv_aload_n (pc := 96) hx hb dX10_judge_96 rfl (lv_at hl 0 rfl) ?_
        refine x_get (pc := 97) X E hI inX10 0 rfl rfl 30 (by decide) tw_4_19 rfl dX10_judge_97 ?_
        refine lv_bipush (pc := 100) (v := 60) hx hb dX10_judge_100 (by decide) ?_
        refine lv_iload_n (pc := 102) hx hb dX10_judge_102 rfl (lv_at hl 1 rfl) ?_
        refine lv_imul (pc := 103) hx hb dX10_judge_103 ?_
        refine lv_iload_n (pc := 104) hx hb dX10_judge_104 rfl (lv_at hl 2 rfl) ?_
        refine lv_iadd (pc := 105) hx hb dX10_judge_105 ?_
        refine lv_iload (pc := 106) hx hb dX10_judge_106 (lv_at hl 3 rfl) ?_
        refine lv_iadd (pc := 108) hx hb dX10_judge_108 ?_
        obtain ⟨t4, e4, hf⟩ := q_ob hf
        refine x_lald (pc := 109) X E hI 20 rfl e4 dX10_judge_109 ?_
        refine lv_aload_n (pc := 110) hx hb dX10_judge_110 rfl (lv_at hl 0 rfl) ?_
        refine lv_aload_n (pc := 111) hx hb dX10_judge_111 rfl (lv_at hl 0 rfl) ?_
        refine x_get (pc := 112) X E hI inX10 0 rfl rfl 12 (by decide) tw_4_1 rfl dX10_judge_112 ?_
        refine lv_iload (pc := 115) hx hb dX10_judge_115 (lv_at hl 3 rfl) ?_
        obtain ⟨t5, e5, hf⟩ := q_ob hf
        refine x_iald (pc := 117) X E hI 9 rfl e5 dX10_judge_117 ?_
        obtain ⟨t6, e6, hf⟩ := q_ob hf
        refine x_cVs (pc := 118) (st1 := [.int t6.1, .long t4]) (w1 := (mw G h z_thrown z_s z_kept z_isKept z_moveMany z_moves z_hands z_troubles z_troubleSorts z_troubleNumbers z_asked t6.2 z_leasts z_isSeen z_classMany z_types z_typeCounts z_typeMany z_text z_signs z_at z_lacks z_clauses z_begun z_letters z_firsts z_seconds z_aside z_sorts z_sizes z_items)) X E hI (c_X10_tellsPainting l G h e6) kv_X10_236 hd_X10_tellsPainting ⟨rfl, rfl⟩ (by decide) 0 rfl rfl rfl rfl hl.1 rfl (Nat.le_of_ble_eq_true rfl) dX10_judge_118 ⟨Nat.le_of_ble_eq_true rfl, Nat.le_of_ble_eq_true rfl⟩ rfl (fun H locs hI => ?_)
        refine lv_i2l (pc := 121) (v := (t6.1 : Int32).toInt64) hx hb dX10_judge_121 rfl ?_
        refine W.lcmp (pc := 122) hx hb dX10_judge_122 ?_
        refine lv_if_eq (pc := 123) (tgt := 129) hx hb dX10_judge_123 (by decide) (fun c7 => ?_) (fun c7 => ?_)
        · have hf := q_ip c7 hf
          refine lv_iinc (pc := 129) (v := l4 + 1) (lv' := [(4, .int (l4 + 1)), (0, .ref (h 0)), (2, .int l2), (3, .int l3)]) hx hb dX10_judge_129 hl (k := 3) rfl rfl (by decide) rfl (fun ls hl => ?_)
          refine lv_goto (pc := 132) (tgt := 64) hx hb dX10_judge_132 (by decide) ?_
          exact ih hI (lv_sub hl [1, 2, 3, 0] rfl) hf
        · have hf := q_in c7 hf
          refine lv_iload (pc := 126) hx hb dX10_judge_126 (lv_at hl 3 rfl) ?_
          obtain rfl := Option.some.inj hf
          exact x_iret X hI dX10_judge_128
      · have hf := q_in c3 hf
        refine lv_bipush (pc := 90) (v := 100) hx hb dX10_judge_90 (by decide) ?_
        refine lv_iload (pc := 92) hx hb dX10_judge_92 (lv_at hl 3 rfl) ?_
        refine lv_iadd (pc := 94) hx hb dX10_judge_94 ?_
        obtain rfl := Option.some.inj hf
        exact x_iret X hI dX10_judge_95

set_option maxHeartbeats 4000000 in
set_option maxRecDepth 100000 in
theorem c_X10_judge (l : Launch) (G : GX) (h : Nat → Nat) {l1 : Int32} {l2 : Int32} {l3 : Int32} {z_s : Nat → Int32} {z_moveMany : Int32} {z_moves : Nat → Int32} {z_hands : Nat → Int32} {z_paint : Nat → Int32} {z_leasts : Nat → Int32} {z_isSeen : Nat → Int32} {z_classMany : Int32} {z_sorts : Nat → Int32} {z_sizes : Nat → Int32} {z_items : Nat → Int64} {z_thrown : Int32} {z_kept : Nat → Int32} {z_isKept : Int32} {z_troubles : Int32} {z_troubleSorts : Nat → Int32} {z_troubleNumbers : Nat → Int32} {z_asked : Nat → Int32} {z_types : Nat → Int32} {z_typeCounts : Nat → Int32} {z_typeMany : Int32} {z_text : Nat → Int32} {z_signs : Int32} {z_at : Int32} {z_lacks : Int32} {z_clauses : Int32} {z_begun : Int32} {z_letters : Nat → Int32} {z_firsts : Nat → Int32} {z_seconds : Nat → Int32} {z_aside : Nat → Int32} {res : Int32 × Int32 × (Nat → Int32) × (Nat → Int32) × (Nat → Int32) × (Nat → Int32) × (Nat → Int32) × Int32} (hf : f_X10_judge l1 l2 l3 z_s z_moveMany z_moves z_hands z_paint z_leasts z_isSeen z_classMany z_sorts z_sizes z_items = some res) : MX l yX10_judge cX10_judge 5 (some .int) rm_X10_judge G (mw G h z_thrown z_s z_kept z_isKept z_moveMany z_moves z_hands z_troubles z_troubleSorts z_troubleNumbers z_asked z_paint z_leasts z_isSeen z_classMany z_types z_typeCounts z_typeMany z_text z_signs z_at z_lacks z_clauses z_begun z_letters z_firsts z_seconds z_aside z_sorts z_sizes z_items) [.ref (h 0), .int l1, .int l2, .int l3] (mw G h z_thrown z_s z_kept z_isKept res.2.1 res.2.2.1 res.2.2.2.1 z_troubles z_troubleSorts z_troubleNumbers z_asked res.2.2.2.2.1 res.2.2.2.2.2.1 res.2.2.2.2.2.2.1 res.2.2.2.2.2.2.2 z_types z_typeCounts z_typeMany z_text z_signs z_at z_lacks z_clauses z_begun z_letters z_firsts z_seconds z_aside z_sorts z_sizes z_items) (some (.int res.1)) 0 0 := by
  refine MX.of (plainFor_of_name (by decide)) (Nat.le_of_ble_eq_true rfl) ?_
  intro p e s m below meth c A X E hI ls hl
  obtain ⟨hx, hb, hml, hown, hts, hr, hlk⟩ := id X
  have hl : lv_has ls 5 [(0, .ref (h 0)), (1, .int l1), (2, .int l2), (3, .int l3)] := hl
  unfold f_X10_judge at hf
  refine lv_iload_n (pc := 0) hx hb dX10_judge_0 rfl (lv_at hl 1 rfl) ?_
  obtain ⟨t1, e1, hf⟩ := q_ob hf
  refine x_cSn (pc := 1) (st1 := [.int t1]) X E hI (c_X10_isBy l G e1) ks_X10_222 hd_X10_isBy ⟨rfl, rfl⟩ (by decide) rfl hl.1 rfl (Nat.le_of_ble_eq_true rfl) dX10_judge_1 ⟨Nat.le_of_ble_eq_true rfl, Nat.le_of_ble_eq_true rfl⟩ rfl (fun H locs hI => ?_)
  refine lv_if_eq (pc := 4) (tgt := 14) hx hb dX10_judge_4 (by decide) (fun c2 => ?_) (fun c2 => ?_)
  · have hf := q_ip c2 hf
    refine lv_iconst (pc := 14) (v := (-1)) hx hb dX10_judge_14 (by decide) ?_
    obtain rfl := Option.some.inj hf
    exact x_iret X hI dX10_judge_15
  · have hf := q_in c2 hf
    refine lv_iload_n (pc := 7) hx hb dX10_judge_7 rfl (lv_at hl 2 rfl) ?_
    obtain ⟨t3, e3, hf⟩ := q_ob hf
    refine x_cSn (pc := 8) (st1 := [.int t3]) X E hI (c_X10_isTape l G e3) ks_X10_329 hd_X10_isTape ⟨rfl, rfl⟩ (by decide) rfl hl.1 rfl (Nat.le_of_ble_eq_true rfl) dX10_judge_8 ⟨Nat.le_of_ble_eq_true rfl, Nat.le_of_ble_eq_true rfl⟩ rfl (fun H locs hI => ?_)
    refine lv_if_ne (pc := 11) (tgt := 16) hx hb dX10_judge_11 (by decide) (fun c4 => ?_) (fun c4 => ?_)
    · have hf := q_in c4 hf
      refine lv_aload_n (pc := 16) hx hb dX10_judge_16 rfl (lv_at hl 0 rfl) ?_
      refine x_get (pc := 17) X E hI inX10 0 rfl rfl 28 (by decide) tw_4_17 rfl dX10_judge_17 ?_
      refine lv_iload_n (pc := 20) hx hb dX10_judge_20 rfl (lv_at hl 2 rfl) ?_
      obtain ⟨t5, e5, hf⟩ := q_ob hf
      refine x_iald (pc := 21) X E hI 18 rfl e5 dX10_judge_21 ?_
      refine lv_iconst (pc := 22) (v := (-1)) hx hb dX10_judge_22 (by decide) ?_
      refine lv_icmp_eq (pc := 23) (tgt := 39) hx hb dX10_judge_23 (by decide) (fun c6 => ?_) (fun c6 => ?_)
      · have hf := q_ip c6 hf
        refine lv_aload_n (pc := 39) hx hb dX10_judge_39 rfl (lv_at hl 0 rfl) ?_
        refine x_get (pc := 40) X E hI inX10 0 rfl rfl 28 (by decide) tw_4_17 rfl dX10_judge_40 ?_
        refine lv_iload_n (pc := 43) hx hb dX10_judge_43 rfl (lv_at hl 2 rfl) ?_
        obtain ⟨t7, e7, hf⟩ := q_ob hf
        refine x_iald (pc := 44) X E hI 18 rfl e7 dX10_judge_44 ?_
        refine lv_iconst (pc := 45) (v := (-1)) hx hb dX10_judge_45 (by decide) ?_
        refine lv_icmp_eq (pc := 46) (tgt := 53) hx hb dX10_judge_46 (by decide) (fun c8 => ?_) (fun c8 => ?_)
        · have hf := q_ip c8 hf
          refine lv_bipush (pc := 53) (v := 100) hx hb dX10_judge_53 (by decide) ?_
          obtain rfl := Option.some.inj hf
          exact x_iret X hI dX10_judge_55
        · have hf := q_in c8 hf
          refine lv_iload_n (pc := 49) hx hb dX10_judge_49 rfl (lv_at hl 3 rfl) ?_
          refine lv_if_ge (pc := 50) (tgt := 56) hx hb dX10_judge_50 (by decide) (fun c9 => ?_) (fun c9 => ?_)
          · have hf := q_ip c9 hf
            refine lv_aload_n (pc := 56) hx hb dX10_judge_56 rfl (lv_at hl 0 rfl) ?_
            refine lv_iload_n (pc := 57) hx hb dX10_judge_57 rfl (lv_at hl 1 rfl) ?_
            obtain ⟨t10, e10, hf⟩ := q_ob hf
            refine x_cVs (pc := 58) (st1 := []) (w1 := (mw G h z_thrown z_s z_kept z_isKept t10.1 t10.2.1 t10.2.2.1 z_troubles z_troubleSorts z_troubleNumbers z_asked t10.2.2.2.1 t10.2.2.2.2.1 t10.2.2.2.2.2.1 t10.2.2.2.2.2.2 z_types z_typeCounts z_typeMany z_text z_signs z_at z_lacks z_clauses z_begun z_letters z_firsts z_seconds z_aside z_sorts z_sizes z_items)) X E hI (c_X10_allClasses l G h e10) kv_X10_204 hd_X10_allClasses ⟨rfl, rfl⟩ (by decide) 0 rfl rfl rfl rfl hl.1 rfl (Nat.le_of_ble_eq_true rfl) dX10_judge_58 ⟨Nat.le_of_ble_eq_true rfl, Nat.le_of_ble_eq_true rfl⟩ rfl (fun H locs hI => ?_)
            refine lv_iconst (pc := 61) (v := 0) hx hb dX10_judge_61 (by decide) ?_
            refine lv_istore (pc := 62) (lv' := [(4, .int 0), (0, .ref (h 0)), (1, .int l1), (2, .int l2), (3, .int l3)]) hx hb dX10_judge_62 hl (by decide) rfl (fun ls hl => ?_)
            refine k_X10_judge_L64 X E (fun l4_11 z_paint_11 H locs ls hI hl hf => ?_) hI (lv_sub hl [1, 3, 4, 0] rfl) hf
            refine lv_bipush (pc := 135) (v := (-5)) hx hb dX10_judge_135 (by decide) ?_
            obtain rfl := Option.some.inj hf
            exact x_iret X hI dX10_judge_137
          · have hf := q_in c9 hf
            refine lv_bipush (pc := 53) (v := 100) hx hb dX10_judge_53 (by decide) ?_
            obtain rfl := Option.some.inj hf
            exact x_iret X hI dX10_judge_55
      · have hf := q_in c6 hf
        refine lv_aload_n (pc := 26) hx hb dX10_judge_26 rfl (lv_at hl 0 rfl) ?_
        refine x_get (pc := 27) X E hI inX10 0 rfl rfl 28 (by decide) tw_4_17 rfl dX10_judge_27 ?_
        refine lv_iload_n (pc := 30) hx hb dX10_judge_30 rfl (lv_at hl 2 rfl) ?_
        obtain ⟨t12, e12, hf⟩ := q_ob hf
        refine x_iald (pc := 31) X E hI 18 rfl e12 dX10_judge_31 ?_
        refine lv_iconst (pc := 32) (v := 2) hx hb dX10_judge_32 (by decide) ?_
        refine lv_icmp_eq (pc := 33) (tgt := 39) hx hb dX10_judge_33 (by decide) (fun c13 => ?_) (fun c13 => ?_)
        · have hf := q_ip c13 hf
          refine lv_aload_n (pc := 39) hx hb dX10_judge_39 rfl (lv_at hl 0 rfl) ?_
          refine x_get (pc := 40) X E hI inX10 0 rfl rfl 28 (by decide) tw_4_17 rfl dX10_judge_40 ?_
          refine lv_iload_n (pc := 43) hx hb dX10_judge_43 rfl (lv_at hl 2 rfl) ?_
          obtain ⟨t14, e14, hf⟩ := q_ob hf
          refine x_iald (pc := 44) X E hI 18 rfl e14 dX10_judge_44 ?_
          refine lv_iconst (pc := 45) (v := (-1)) hx hb dX10_judge_45 (by decide) ?_
          refine lv_icmp_eq (pc := 46) (tgt := 53) hx hb dX10_judge_46 (by decide) (fun c15 => ?_) (fun c15 => ?_)
          · have hf := q_ip c15 hf
            refine lv_bipush (pc := 53) (v := 100) hx hb dX10_judge_53 (by decide) ?_
            obtain rfl := Option.some.inj hf
            exact x_iret X hI dX10_judge_55
          · have hf := q_in c15 hf
            refine lv_iload_n (pc := 49) hx hb dX10_judge_49 rfl (lv_at hl 3 rfl) ?_
            refine lv_if_ge (pc := 50) (tgt := 56) hx hb dX10_judge_50 (by decide) (fun c16 => ?_) (fun c16 => ?_)
            · have hf := q_ip c16 hf
              refine lv_aload_n (pc := 56) hx hb dX10_judge_56 rfl (lv_at hl 0 rfl) ?_
              refine lv_iload_n (pc := 57) hx hb dX10_judge_57 rfl (lv_at hl 1 rfl) ?_
              obtain ⟨t17, e17, hf⟩ := q_ob hf
              refine x_cVs (pc := 58) (st1 := []) (w1 := (mw G h z_thrown z_s z_kept z_isKept t17.1 t17.2.1 t17.2.2.1 z_troubles z_troubleSorts z_troubleNumbers z_asked t17.2.2.2.1 t17.2.2.2.2.1 t17.2.2.2.2.2.1 t17.2.2.2.2.2.2 z_types z_typeCounts z_typeMany z_text z_signs z_at z_lacks z_clauses z_begun z_letters z_firsts z_seconds z_aside z_sorts z_sizes z_items)) X E hI (c_X10_allClasses l G h e17) kv_X10_204 hd_X10_allClasses ⟨rfl, rfl⟩ (by decide) 0 rfl rfl rfl rfl hl.1 rfl (Nat.le_of_ble_eq_true rfl) dX10_judge_58 ⟨Nat.le_of_ble_eq_true rfl, Nat.le_of_ble_eq_true rfl⟩ rfl (fun H locs hI => ?_)
              refine lv_iconst (pc := 61) (v := 0) hx hb dX10_judge_61 (by decide) ?_
              refine lv_istore (pc := 62) (lv' := [(4, .int 0), (0, .ref (h 0)), (1, .int l1), (2, .int l2), (3, .int l3)]) hx hb dX10_judge_62 hl (by decide) rfl (fun ls hl => ?_)
              refine k_X10_judge_L64 X E (fun l4_18 z_paint_18 H locs ls hI hl hf => ?_) hI (lv_sub hl [1, 3, 4, 0] rfl) hf
              refine lv_bipush (pc := 135) (v := (-5)) hx hb dX10_judge_135 (by decide) ?_
              obtain rfl := Option.some.inj hf
              exact x_iret X hI dX10_judge_137
            · have hf := q_in c16 hf
              refine lv_bipush (pc := 53) (v := 100) hx hb dX10_judge_53 (by decide) ?_
              obtain rfl := Option.some.inj hf
              exact x_iret X hI dX10_judge_55
        · have hf := q_in c13 hf
          refine lv_bipush (pc := 36) (v := (-12)) hx hb dX10_judge_36 (by decide) ?_
          obtain rfl := Option.some.inj hf
          exact x_iret X hI dX10_judge_38
    · have hf := q_ip c4 hf
      refine lv_iconst (pc := 14) (v := (-1)) hx hb dX10_judge_14 (by decide) ?_
      obtain rfl := Option.some.inj hf
      exact x_iret X hI dX10_judge_15

abbrev rm_X10_moveCount : Room := { frames := 6, cells := 0, slots := 0, locals := 132 }
set_option maxHeartbeats 4000000 in
set_option maxRecDepth 100000 in
theorem c_X10_moveCount (l : Launch) (G : GX) (h : Nat → Nat) {z_s : Nat → Int32} {z_moveMany : Int32} {z_moves : Nat → Int32} {z_hands : Nat → Int32} {z_thrown : Int32} {z_kept : Nat → Int32} {z_isKept : Int32} {z_troubles : Int32} {z_troubleSorts : Nat → Int32} {z_troubleNumbers : Nat → Int32} {z_asked : Nat → Int32} {z_paint : Nat → Int32} {z_leasts : Nat → Int32} {z_isSeen : Nat → Int32} {z_classMany : Int32} {z_types : Nat → Int32} {z_typeCounts : Nat → Int32} {z_typeMany : Int32} {z_text : Nat → Int32} {z_signs : Int32} {z_at : Int32} {z_lacks : Int32} {z_clauses : Int32} {z_begun : Int32} {z_letters : Nat → Int32} {z_firsts : Nat → Int32} {z_seconds : Nat → Int32} {z_aside : Nat → Int32} {z_sorts : Nat → Int32} {z_sizes : Nat → Int32} {z_items : Nat → Int64} {res : Int32 × Int32 × (Nat → Int32) × (Nat → Int32)} (hf : f_X10_moveCount z_s z_moveMany z_moves z_hands = some res) : MX l yX10_moveCount cX10_moveCount 1 (some .int) rm_X10_moveCount G (mw G h z_thrown z_s z_kept z_isKept z_moveMany z_moves z_hands z_troubles z_troubleSorts z_troubleNumbers z_asked z_paint z_leasts z_isSeen z_classMany z_types z_typeCounts z_typeMany z_text z_signs z_at z_lacks z_clauses z_begun z_letters z_firsts z_seconds z_aside z_sorts z_sizes z_items) [.ref (h 0)] (mw G h z_thrown z_s z_kept z_isKept res.2.1 res.2.2.1 res.2.2.2 z_troubles z_troubleSorts z_troubleNumbers z_asked z_paint z_leasts z_isSeen z_classMany z_types z_typeCounts z_typeMany z_text z_signs z_at z_lacks z_clauses z_begun z_letters z_firsts z_seconds z_aside z_sorts z_sizes z_items) (some (.int res.1)) 0 0 := by
  refine MX.of (plainFor_of_name (by decide)) (Nat.le_of_ble_eq_true rfl) ?_
  intro p e s m below meth c A X E hI ls hl
  obtain ⟨hx, hb, hml, hown, hts, hr, hlk⟩ := id X
  have hl : lv_has ls 1 [(0, .ref (h 0))] := hl
  unfold f_X10_moveCount at hf
  refine lv_aload_n (pc := 0) hx hb dX10_moveCount_0 rfl (lv_at hl 0 rfl) ?_
  obtain ⟨t1, e1, hf⟩ := q_ob hf
  refine x_cVs (pc := 1) (st1 := []) (w1 := (mw G h z_thrown z_s z_kept z_isKept t1.1 t1.2.1 t1.2.2 z_troubles z_troubleSorts z_troubleNumbers z_asked z_paint z_leasts z_isSeen z_classMany z_types z_typeCounts z_typeMany z_text z_signs z_at z_lacks z_clauses z_begun z_letters z_firsts z_seconds z_aside z_sorts z_sizes z_items)) X E hI (c_X10_moves_ l G h e1) kv_X10_163 hd_X10_moves_ ⟨rfl, rfl⟩ (by decide) 0 rfl rfl rfl rfl hl.1 rfl (Nat.le_of_ble_eq_true rfl) dX10_moveCount_1 ⟨Nat.le_of_ble_eq_true rfl, Nat.le_of_ble_eq_true rfl⟩ rfl (fun H locs hI => ?_)
  refine lv_aload_n (pc := 4) hx hb dX10_moveCount_4 rfl (lv_at hl 0 rfl) ?_
  refine x_get (pc := 5) X E hI inX10 0 rfl rfl 4 (by decide) tw_3_233 rfl dX10_moveCount_5 ?_
  obtain rfl := Option.some.inj hf
  exact x_iret X hI dX10_moveCount_8

abbrev rm_X10_image : Room := { frames := 7, cells := 0, slots := 0, locals := 152 }
set_option maxHeartbeats 4000000 in
set_option maxRecDepth 100000 in
theorem c_X10_image (l : Launch) (G : GX) (h : Nat → Nat) {z_s : Nat → Int32} {z_kept : Nat → Int32} {z_isKept : Int32} {z_moveMany : Int32} {z_moves : Nat → Int32} {z_hands : Nat → Int32} {z_thrown : Int32} {z_troubles : Int32} {z_troubleSorts : Nat → Int32} {z_troubleNumbers : Nat → Int32} {z_asked : Nat → Int32} {z_paint : Nat → Int32} {z_leasts : Nat → Int32} {z_isSeen : Nat → Int32} {z_classMany : Int32} {z_types : Nat → Int32} {z_typeCounts : Nat → Int32} {z_typeMany : Int32} {z_text : Nat → Int32} {z_signs : Int32} {z_at : Int32} {z_lacks : Int32} {z_clauses : Int32} {z_begun : Int32} {z_letters : Nat → Int32} {z_firsts : Nat → Int32} {z_seconds : Nat → Int32} {z_aside : Nat → Int32} {z_sorts : Nat → Int32} {z_sizes : Nat → Int32} {z_items : Nat → Int64} {res : Int32 × (Nat → Int32) × Int32 × Int32 × (Nat → Int32) × (Nat → Int32)} (hf : f_X10_image z_s z_kept z_isKept z_moveMany z_moves z_hands = some res) : MX l yX10_image cX10_image 1 (some .int) rm_X10_image G (mw G h z_thrown z_s z_kept z_isKept z_moveMany z_moves z_hands z_troubles z_troubleSorts z_troubleNumbers z_asked z_paint z_leasts z_isSeen z_classMany z_types z_typeCounts z_typeMany z_text z_signs z_at z_lacks z_clauses z_begun z_letters z_firsts z_seconds z_aside z_sorts z_sizes z_items) [.ref (h 0)] (mw G h z_thrown z_s res.2.1 res.2.2.1 res.2.2.2.1 res.2.2.2.2.1 res.2.2.2.2.2 z_troubles z_troubleSorts z_troubleNumbers z_asked z_paint z_leasts z_isSeen z_classMany z_types z_typeCounts z_typeMany z_text z_signs z_at z_lacks z_clauses z_begun z_letters z_firsts z_seconds z_aside z_sorts z_sizes z_items) (some (.int res.1)) 0 0 := by
  refine MX.of (plainFor_of_name (by decide)) (Nat.le_of_ble_eq_true rfl) ?_
  intro p e s m below meth c A X E hI ls hl
  obtain ⟨hx, hb, hml, hown, hts, hr, hlk⟩ := id X
  have hl : lv_has ls 1 [(0, .ref (h 0))] := hl
  unfold f_X10_image at hf
  refine lv_aload_n (pc := 0) hx hb dX10_image_0 rfl (lv_at hl 0 rfl) ?_
  refine x_get (pc := 1) X E hI inX10 0 rfl rfl 1 (by decide) tw_3_230 rfl dX10_image_1 ?_
  refine lv_aload_n (pc := 4) hx hb dX10_image_4 rfl (lv_at hl 0 rfl) ?_
  refine x_get (pc := 5) X E hI inX10 0 rfl rfl 2 (by decide) tw_3_231 rfl dX10_image_5 ?_
  obtain ⟨t1, e1, hf⟩ := q_ob hf
  refine x_cSp (pc := 8) (st1 := []) (w2 := (mw G h z_thrown z_s t1 z_isKept z_moveMany z_moves z_hands z_troubles z_troubleSorts z_troubleNumbers z_asked z_paint z_leasts z_isSeen z_classMany z_types z_typeCounts z_typeMany z_text z_signs z_at z_lacks z_clauses z_begun z_letters z_firsts z_seconds z_aside z_sorts z_sizes z_items)) X E hI (c_X10_copies l G (h 1) (h 2) e1) ks_X10_321 hd_X10_copies ⟨rfl, rfl⟩ (by decide) pt_mw_cpw_2 pt_mw_cpw_2q rfl hl.1 rfl (Nat.le_of_ble_eq_true rfl) dX10_image_8 ⟨Nat.le_of_ble_eq_true rfl, Nat.le_of_ble_eq_true rfl⟩ rfl (fun H locs hI => ?_)
  refine lv_aload_n (pc := 11) hx hb dX10_image_11 rfl (lv_at hl 0 rfl) ?_
  refine lv_iconst (pc := 12) (v := 1) hx hb dX10_image_12 (by decide) ?_
  refine x_put (pc := 13) (w' := (mw G h z_thrown z_s t1 1 z_moveMany z_moves z_hands z_troubles z_troubleSorts z_troubleNumbers z_asked z_paint z_leasts z_isSeen z_classMany z_types z_typeCounts z_typeMany z_text z_signs z_at z_lacks z_clauses z_begun z_letters z_firsts z_seconds z_aside z_sorts z_sizes z_items)) X E hI inX10 tyX10 tyX10_ok nmX10 0 rfl rfl 3 (by decide) tw_3_232 rfl rfl rfl (Nat.le_of_ble_eq_true rfl) rfl dX10_image_13 (fun H locs hI => ?_)
  refine lv_aload_n (pc := 16) hx hb dX10_image_16 rfl (lv_at hl 0 rfl) ?_
  obtain ⟨t2, e2, hf⟩ := q_ob hf
  refine x_cVs (pc := 17) (st1 := [.int t2.1]) (w1 := (mw G h z_thrown z_s t1 1 t2.2.1 t2.2.2.1 t2.2.2.2 z_troubles z_troubleSorts z_troubleNumbers z_asked z_paint z_leasts z_isSeen z_classMany z_types z_typeCounts z_typeMany z_text z_signs z_at z_lacks z_clauses z_begun z_letters z_firsts z_seconds z_aside z_sorts z_sizes z_items)) X E hI (c_X10_moveCount l G h e2) kv_X10_336 hd_X10_moveCount ⟨rfl, rfl⟩ (by decide) 0 rfl rfl rfl rfl hl.1 rfl (Nat.le_of_ble_eq_true rfl) dX10_image_17 ⟨Nat.le_of_ble_eq_true rfl, Nat.le_of_ble_eq_true rfl⟩ rfl (fun H locs hI => ?_)
  obtain rfl := Option.some.inj hf
  exact x_iret X hI dX10_image_20

abbrev rm_X10_undo : Room := { frames := 7, cells := 0, slots := 0, locals := 152 }
set_option maxHeartbeats 4000000 in
set_option maxRecDepth 100000 in
theorem c_X10_undo (l : Launch) (G : GX) (h : Nat → Nat) {z_s : Nat → Int32} {z_kept : Nat → Int32} {z_isKept : Int32} {z_moveMany : Int32} {z_moves : Nat → Int32} {z_hands : Nat → Int32} {z_thrown : Int32} {z_troubles : Int32} {z_troubleSorts : Nat → Int32} {z_troubleNumbers : Nat → Int32} {z_asked : Nat → Int32} {z_paint : Nat → Int32} {z_leasts : Nat → Int32} {z_isSeen : Nat → Int32} {z_classMany : Int32} {z_types : Nat → Int32} {z_typeCounts : Nat → Int32} {z_typeMany : Int32} {z_text : Nat → Int32} {z_signs : Int32} {z_at : Int32} {z_lacks : Int32} {z_clauses : Int32} {z_begun : Int32} {z_letters : Nat → Int32} {z_firsts : Nat → Int32} {z_seconds : Nat → Int32} {z_aside : Nat → Int32} {z_sorts : Nat → Int32} {z_sizes : Nat → Int32} {z_items : Nat → Int64} {res : Int32 × (Nat → Int32) × Int32 × (Nat → Int32) × (Nat → Int32)} (hf : f_X10_undo z_s z_kept z_isKept z_moveMany z_moves z_hands = some res) : MX l yX10_undo cX10_undo 1 (some .int) rm_X10_undo G (mw G h z_thrown z_s z_kept z_isKept z_moveMany z_moves z_hands z_troubles z_troubleSorts z_troubleNumbers z_asked z_paint z_leasts z_isSeen z_classMany z_types z_typeCounts z_typeMany z_text z_signs z_at z_lacks z_clauses z_begun z_letters z_firsts z_seconds z_aside z_sorts z_sizes z_items) [.ref (h 0)] (mw G h z_thrown res.2.1 z_kept z_isKept res.2.2.1 res.2.2.2.1 res.2.2.2.2 z_troubles z_troubleSorts z_troubleNumbers z_asked z_paint z_leasts z_isSeen z_classMany z_types z_typeCounts z_typeMany z_text z_signs z_at z_lacks z_clauses z_begun z_letters z_firsts z_seconds z_aside z_sorts z_sizes z_items) (some (.int res.1)) 0 0 := by
  refine MX.of (plainFor_of_name (by decide)) (Nat.le_of_ble_eq_true rfl) ?_
  intro p e s m below meth c A X E hI ls hl
  obtain ⟨hx, hb, hml, hown, hts, hr, hlk⟩ := id X
  have hl : lv_has ls 1 [(0, .ref (h 0))] := hl
  unfold f_X10_undo at hf
  refine lv_aload_n (pc := 0) hx hb dX10_undo_0 rfl (lv_at hl 0 rfl) ?_
  refine x_get (pc := 1) X E hI inX10 0 rfl rfl 3 (by decide) tw_3_232 rfl dX10_undo_1 ?_
  refine lv_if_ne (pc := 4) (tgt := 10) hx hb dX10_undo_4 (by decide) (fun c1 => ?_) (fun c1 => ?_)
  · have hf := q_in c1 hf
    refine lv_aload_n (pc := 10) hx hb dX10_undo_10 rfl (lv_at hl 0 rfl) ?_
    refine x_get (pc := 11) X E hI inX10 0 rfl rfl 2 (by decide) tw_3_231 rfl dX10_undo_11 ?_
    refine lv_aload_n (pc := 14) hx hb dX10_undo_14 rfl (lv_at hl 0 rfl) ?_
    refine x_get (pc := 15) X E hI inX10 0 rfl rfl 1 (by decide) tw_3_230 rfl dX10_undo_15 ?_
    obtain ⟨t2, e2, hf⟩ := q_ob hf
    refine x_cSp (pc := 18) (st1 := []) (w2 := (mw G h z_thrown t2 z_kept z_isKept z_moveMany z_moves z_hands z_troubles z_troubleSorts z_troubleNumbers z_asked z_paint z_leasts z_isSeen z_classMany z_types z_typeCounts z_typeMany z_text z_signs z_at z_lacks z_clauses z_begun z_letters z_firsts z_seconds z_aside z_sorts z_sizes z_items)) X E hI (c_X10_copies l G (h 2) (h 1) e2) ks_X10_321 hd_X10_copies ⟨rfl, rfl⟩ (by decide) pt_mw_cpw_3 pt_mw_cpw_3q rfl hl.1 rfl (Nat.le_of_ble_eq_true rfl) dX10_undo_18 ⟨Nat.le_of_ble_eq_true rfl, Nat.le_of_ble_eq_true rfl⟩ rfl (fun H locs hI => ?_)
    refine lv_aload_n (pc := 21) hx hb dX10_undo_21 rfl (lv_at hl 0 rfl) ?_
    obtain ⟨t3, e3, hf⟩ := q_ob hf
    refine x_cVs (pc := 22) (st1 := [.int t3.1]) (w1 := (mw G h z_thrown t2 z_kept z_isKept t3.2.1 t3.2.2.1 t3.2.2.2 z_troubles z_troubleSorts z_troubleNumbers z_asked z_paint z_leasts z_isSeen z_classMany z_types z_typeCounts z_typeMany z_text z_signs z_at z_lacks z_clauses z_begun z_letters z_firsts z_seconds z_aside z_sorts z_sizes z_items)) X E hI (c_X10_moveCount l G h e3) kv_X10_336 hd_X10_moveCount ⟨rfl, rfl⟩ (by decide) 0 rfl rfl rfl rfl hl.1 rfl (Nat.le_of_ble_eq_true rfl) dX10_undo_22 ⟨Nat.le_of_ble_eq_true rfl, Nat.le_of_ble_eq_true rfl⟩ rfl (fun H locs hI => ?_)
    obtain rfl := Option.some.inj hf
    exact x_iret X hI dX10_undo_25
  · have hf := q_ip c1 hf
    refine lv_bipush (pc := 7) (v := (-3)) hx hb dX10_undo_7 (by decide) ?_
    obtain rfl := Option.some.inj hf
    exact x_iret X hI dX10_undo_9

abbrev rm_X10_count : Room := { frames := 0, cells := 0, slots := 0, locals := 0 }
set_option maxHeartbeats 4000000 in
set_option maxRecDepth 100000 in
theorem c_X10_count (l : Launch) (G : GX) (h : Nat → Nat) {l1 : Int32} {z_s : Nat → Int32} {z_signs : Int32} {z_thrown : Int32} {z_kept : Nat → Int32} {z_isKept : Int32} {z_moveMany : Int32} {z_moves : Nat → Int32} {z_hands : Nat → Int32} {z_troubles : Int32} {z_troubleSorts : Nat → Int32} {z_troubleNumbers : Nat → Int32} {z_asked : Nat → Int32} {z_paint : Nat → Int32} {z_leasts : Nat → Int32} {z_isSeen : Nat → Int32} {z_classMany : Int32} {z_types : Nat → Int32} {z_typeCounts : Nat → Int32} {z_typeMany : Int32} {z_text : Nat → Int32} {z_at : Int32} {z_lacks : Int32} {z_clauses : Int32} {z_begun : Int32} {z_letters : Nat → Int32} {z_firsts : Nat → Int32} {z_seconds : Nat → Int32} {z_aside : Nat → Int32} {z_sorts : Nat → Int32} {z_sizes : Nat → Int32} {z_items : Nat → Int64} {res : Int32} (hf : f_X10_count l1 z_s z_signs = some res) : MX l yX10_count cX10_count 2 (some .int) rm_X10_count G (mw G h z_thrown z_s z_kept z_isKept z_moveMany z_moves z_hands z_troubles z_troubleSorts z_troubleNumbers z_asked z_paint z_leasts z_isSeen z_classMany z_types z_typeCounts z_typeMany z_text z_signs z_at z_lacks z_clauses z_begun z_letters z_firsts z_seconds z_aside z_sorts z_sizes z_items) [.ref (h 0), .int l1] (mw G h z_thrown z_s z_kept z_isKept z_moveMany z_moves z_hands z_troubles z_troubleSorts z_troubleNumbers z_asked z_paint z_leasts z_isSeen z_classMany z_types z_typeCounts z_typeMany z_text z_signs z_at z_lacks z_clauses z_begun z_letters z_firsts z_seconds z_aside z_sorts z_sizes z_items) (some (.int res)) 0 0 := by
  refine MX.of (plainFor_of_name (by decide)) (Nat.le_of_ble_eq_true rfl) ?_
  intro p e s m below meth c A X E hI ls hl
  obtain ⟨hx, hb, hml, hown, hts, hr, hlk⟩ := id X
  have hl : lv_has ls 2 [(0, .ref (h 0)), (1, .int l1)] := hl
  unfold f_X10_count at hf
  refine lv_iload_n (pc := 0) hx hb dX10_count_0 rfl (lv_at hl 1 rfl) ?_
  refine lv_if_ne (pc := 1) (tgt := 13) hx hb dX10_count_1 (by decide) (fun c1 => ?_) (fun c1 => ?_)
  · have hf := q_in c1 hf
    refine lv_iload_n (pc := 13) hx hb dX10_count_13 rfl (lv_at hl 1 rfl) ?_
    refine lv_iconst (pc := 14) (v := 1) hx hb dX10_count_14 (by decide) ?_
    refine lv_icmp_ne (pc := 15) (tgt := 27) hx hb dX10_count_15 (by decide) (fun c2 => ?_) (fun c2 => ?_)
    · have hf := q_in c2 hf
      refine lv_iload_n (pc := 27) hx hb dX10_count_27 rfl (lv_at hl 1 rfl) ?_
      refine lv_iconst (pc := 28) (v := 2) hx hb dX10_count_28 (by decide) ?_
      refine lv_icmp_ne (pc := 29) (tgt := 39) hx hb dX10_count_29 (by decide) (fun c3 => ?_) (fun c3 => ?_)
      · have hf := q_in c3 hf
        refine lv_bipush (pc := 39) (v := (-2)) hx hb dX10_count_39 (by decide) ?_
        obtain rfl := Option.some.inj hf
        exact x_iret X hI dX10_count_41
      · have hf := q_ip c3 hf
        refine lv_aload_n (pc := 32) hx hb dX10_count_32 rfl (lv_at hl 0 rfl) ?_
        refine x_get (pc := 33) X E hI inX10 0 rfl rfl 19 (by decide) tw_4_8 rfl dX10_count_33 ?_
        refine lv_goto (pc := 36) (tgt := 41) hx hb dX10_count_36 (by decide) ?_
        obtain rfl := Option.some.inj hf
        exact x_iret X hI dX10_count_41
    · have hf := q_ip c2 hf
      refine lv_aload_n (pc := 18) hx hb dX10_count_18 rfl (lv_at hl 0 rfl) ?_
      refine x_get (pc := 19) X E hI inX10 0 rfl rfl 1 (by decide) tw_3_230 rfl dX10_count_19 ?_
      refine lv_iconst (pc := 22) (v := 4) hx hb dX10_count_22 (by decide) ?_
      obtain ⟨t4, e4, hf⟩ := q_ob hf
      refine x_iald (pc := 23) X E hI 1 rfl e4 dX10_count_23 ?_
      refine lv_goto (pc := 24) (tgt := 41) hx hb dX10_count_24 (by decide) ?_
      obtain rfl := Option.some.inj hf
      exact x_iret X hI dX10_count_41
  · have hf := q_ip c1 hf
    refine lv_aload_n (pc := 4) hx hb dX10_count_4 rfl (lv_at hl 0 rfl) ?_
    refine x_get (pc := 5) X E hI inX10 0 rfl rfl 1 (by decide) tw_3_230 rfl dX10_count_5 ?_
    refine lv_iconst (pc := 8) (v := 3) hx hb dX10_count_8 (by decide) ?_
    obtain ⟨t5, e5, hf⟩ := q_ob hf
    refine x_iald (pc := 9) X E hI 1 rfl e5 dX10_count_9 ?_
    refine lv_goto (pc := 10) (tgt := 41) hx hb dX10_count_10 (by decide) ?_
    obtain rfl := Option.some.inj hf
    exact x_iret X hI dX10_count_41

abbrev rm_X10_tape : Room := { frames := 2, cells := 0, slots := 0, locals := 45 }
set_option maxHeartbeats 4000000 in
set_option maxRecDepth 100000 in
theorem k_X10_tape_L75 {p : Program} {l : Launch} {e : Env} {s : State} {m : MethodId} {args : Array Value} {below : List Frame} {meth : Method} {c : Code} {A : Nat → Prop} {G : GX} {h : Nat → Nat} {l1 : Int32} {z_thrown : Int32} {z_s : Nat → Int32} {z_kept : Nat → Int32} {z_isKept : Int32} {z_moveMany : Int32} {z_moves : Nat → Int32} {z_hands : Nat → Int32} {z_troubles : Int32} {z_troubleSorts : Nat → Int32} {z_troubleNumbers : Nat → Int32} {z_asked : Nat → Int32} {z_paint : Nat → Int32} {z_leasts : Nat → Int32} {z_isSeen : Nat → Int32} {z_classMany : Int32} {z_types : Nat → Int32} {z_typeCounts : Nat → Int32} {z_typeMany : Int32} {z_text : Nat → Int32} {z_signs : Int32} {z_at : Int32} {z_lacks : Int32} {z_clauses : Int32} {z_begun : Int32} {z_letters : Nat → Int32} {z_firsts : Nat → Int32} {z_seconds : Nat → Int32} {z_aside : Nat → Int32} {z_sorts : Nat → Int32} {z_sizes : Nat → Int32} {K : Int32 → (Nat → Int64) → Option (Int32 × (Nat → Int32) × (Nat → Int32) × (Nat → Int64))} {res : Int32 × (Nat → Int32) × (Nat → Int32) × (Nat → Int64)} (X : CX RX10 cX10_tape 5 (some .int) p s m args meth c) (E : EX G A s)
    (hK : ∀ (l4 : Int32) (z_items : (Nat → Int64)) (H : Heap) (locs : List Loc) (ls : Array Slot), IN A G (mw G h z_thrown z_s z_kept z_isKept z_moveMany z_moves z_hands z_troubles z_troubleSorts z_troubleNumbers z_asked z_paint z_leasts z_isSeen z_classMany z_types z_typeCounts z_typeMany z_text z_signs z_at z_lacks z_clauses z_begun z_letters z_firsts z_seconds z_aside z_sorts z_sizes z_items) s H locs → lv_has ls 5 [(0, .ref (h 0)), (1, .int l1), (4, .int l4)] → K l4 z_items = some res → W p l e rm_X10_tape s m args below meth c H locs 0 0 (MQ below (QX G A (mw G h z_thrown z_s z_kept z_isKept z_moveMany z_moves z_hands z_troubles z_troubleSorts z_troubleNumbers z_asked z_paint z_leasts z_isSeen z_classMany z_types z_typeCounts z_typeMany z_text z_signs z_at z_lacks z_clauses z_begun z_letters z_firsts z_seconds z_aside res.2.1 res.2.2.1 res.2.2.2) (some (.int res.1))) args s 0 0 A) (F0 m 101 ls [])) :
    ∀ {k : Nat} {l4 : Int32} {z_items : (Nat → Int64)} {H : Heap} {locs : List Loc} {ls : Array Slot}, IN A G (mw G h z_thrown z_s z_kept z_isKept z_moveMany z_moves z_hands z_troubles z_troubleSorts z_troubleNumbers z_asked z_paint z_leasts z_isSeen z_classMany z_types z_typeCounts z_typeMany z_text z_signs z_at z_lacks z_clauses z_begun z_letters z_firsts z_seconds z_aside z_sorts z_sizes z_items) s H locs → lv_has ls 5 [(0, .ref (h 0)), (1, .int l1), (4, .int l4)] → f_X10_tape_L75 l1 K k l4 z_items = some res → W p l e rm_X10_tape s m args below meth c H locs 0 0 (MQ below (QX G A (mw G h z_thrown z_s z_kept z_isKept z_moveMany z_moves z_hands z_troubles z_troubleSorts z_troubleNumbers z_asked z_paint z_leasts z_isSeen z_classMany z_types z_typeCounts z_typeMany z_text z_signs z_at z_lacks z_clauses z_begun z_letters z_firsts z_seconds z_aside res.2.1 res.2.2.1 res.2.2.2) (some (.int res.1))) args s 0 0 A) (F0 m 75 ls []) := by
  obtain ⟨hx, hb, hml, hown, hts, hr, hlk⟩ := id X
  intro k
  induction k with
  | zero => intro l4 z_items H locs ls hI hl hf; exact nomatch (show none = some res from hf)
  | succ k ih =>
    intro l4 z_items H locs ls hI hl hf
    rw [f_X10_tape_L75] at hf
    refine lv_iload (pc := 75) hx hb dX10_tape_75 (lv_at hl 2 rfl) ?_
    refine lv_bipush (pc := 77) (v := 60) hx hb dX10_tape_77 (by decide) ?_
    refine lv_icmp_ge (pc := 79) (tgt := 101) hx hb dX10_tape_79 (by decide) (fun c1 => ?_) (fun c1 => ?_)
    · have hf := q_ip c1 hf
      exact hK _ _ _ _ _ hI (lv_sub hl [0, 1, 2] rfl) hf
    · have hf := q_in c1 hf
      refine lv_aload_n (pc := 82) hx hb dX10_tape_82 rfl (lv_at hl 0 rfl) ?_
      refine x_get (pc := 83) X E hI inX10 0 rfl rfl 30 (by decide) tw_4_19 rfl dX10_tape_83 ?_
      refine lv_bipush (pc := 86) (v := 60) hx hb dX10_tape_86 (by decide) ?_
      refine lv_iload_n (pc := 88) hx hb dX10_tape_88 rfl (lv_at hl 1 rfl) ?_
      refine lv_imul (pc := 89) hx hb dX10_tape_89 ?_
      refine lv_iload (pc := 90) hx hb dX10_tape_90 (lv_at hl 2 rfl) ?_
      refine lv_iadd (pc := 92) hx hb dX10_tape_92 ?_
      refine lv_lconst (pc := 93) (v := 0) hx hb dX10_tape_93 (by decide) ?_
      obtain ⟨t2, e2, hf⟩ := q_ob hf
      refine x_last (pc := 94) (w' := (mw G h z_thrown z_s z_kept z_isKept z_moveMany z_moves z_hands z_troubles z_troubleSorts z_troubleNumbers z_asked z_paint z_leasts z_isSeen z_classMany z_types z_typeCounts z_typeMany z_text z_signs z_at z_lacks z_clauses z_begun z_letters z_firsts z_seconds z_aside z_sorts z_sizes t2)) X E hI 20 rfl e2 rfl dX10_tape_94 (fun H locs hI => ?_)
      refine lv_iinc (pc := 95) (v := l4 + 1) (lv' := [(4, .int (l4 + 1)), (0, .ref (h 0)), (1, .int l1)]) hx hb dX10_tape_95 hl (k := 2) rfl rfl (by decide) rfl (fun ls hl => ?_)
      refine lv_goto (pc := 98) (tgt := 75) hx hb dX10_tape_98 (by decide) ?_
      exact ih hI (lv_sub hl [1, 2, 0] rfl) hf

set_option maxHeartbeats 4000000 in
set_option maxRecDepth 100000 in
theorem c_X10_tape (l : Launch) (G : GX) (h : Nat → Nat) {l1 : Int32} {l2 : Int32} {l3 : Int32} {z_sorts : Nat → Int32} {z_sizes : Nat → Int32} {z_items : Nat → Int64} {z_thrown : Int32} {z_s : Nat → Int32} {z_kept : Nat → Int32} {z_isKept : Int32} {z_moveMany : Int32} {z_moves : Nat → Int32} {z_hands : Nat → Int32} {z_troubles : Int32} {z_troubleSorts : Nat → Int32} {z_troubleNumbers : Nat → Int32} {z_asked : Nat → Int32} {z_paint : Nat → Int32} {z_leasts : Nat → Int32} {z_isSeen : Nat → Int32} {z_classMany : Int32} {z_types : Nat → Int32} {z_typeCounts : Nat → Int32} {z_typeMany : Int32} {z_text : Nat → Int32} {z_signs : Int32} {z_at : Int32} {z_lacks : Int32} {z_clauses : Int32} {z_begun : Int32} {z_letters : Nat → Int32} {z_firsts : Nat → Int32} {z_seconds : Nat → Int32} {z_aside : Nat → Int32} {res : Int32 × (Nat → Int32) × (Nat → Int32) × (Nat → Int64)} (hf : f_X10_tape l1 l2 l3 z_sorts z_sizes z_items = some res) : MX l yX10_tape cX10_tape 5 (some .int) rm_X10_tape G (mw G h z_thrown z_s z_kept z_isKept z_moveMany z_moves z_hands z_troubles z_troubleSorts z_troubleNumbers z_asked z_paint z_leasts z_isSeen z_classMany z_types z_typeCounts z_typeMany z_text z_signs z_at z_lacks z_clauses z_begun z_letters z_firsts z_seconds z_aside z_sorts z_sizes z_items) [.ref (h 0), .int l1, .int l2, .int l3] (mw G h z_thrown z_s z_kept z_isKept z_moveMany z_moves z_hands z_troubles z_troubleSorts z_troubleNumbers z_asked z_paint z_leasts z_isSeen z_classMany z_types z_typeCounts z_typeMany z_text z_signs z_at z_lacks z_clauses z_begun z_letters z_firsts z_seconds z_aside res.2.1 res.2.2.1 res.2.2.2) (some (.int res.1)) 0 0 := by
  refine MX.of (plainFor_of_name (by decide)) (Nat.le_of_ble_eq_true rfl) ?_
  intro p e s m below meth c A X E hI ls hl
  obtain ⟨hx, hb, hml, hown, hts, hr, hlk⟩ := id X
  have hl : lv_has ls 5 [(0, .ref (h 0)), (1, .int l1), (2, .int l2), (3, .int l3)] := hl
  unfold f_X10_tape at hf
  refine lv_iload_n (pc := 0) hx hb dX10_tape_0 rfl (lv_at hl 1 rfl) ?_
  obtain ⟨t1, e1, hf⟩ := q_ob hf
  refine x_cSn (pc := 1) (st1 := [.int t1]) X E hI (c_X10_isTape l G e1) ks_X10_329 hd_X10_isTape ⟨rfl, rfl⟩ (by decide) rfl hl.1 rfl (Nat.le_of_ble_eq_true rfl) dX10_tape_1 ⟨Nat.le_of_ble_eq_true rfl, Nat.le_of_ble_eq_true rfl⟩ rfl (fun H locs hI => ?_)
  refine lv_if_ne (pc := 4) (tgt := 9) hx hb dX10_tape_4 (by decide) (fun c2 => ?_) (fun c2 => ?_)
  · have hf := q_in c2 hf
    refine lv_iload_n (pc := 9) hx hb dX10_tape_9 rfl (lv_at hl 2 rfl) ?_
    refine lv_i2l (pc := 10) (v := (l2 : Int32).toInt64) hx hb dX10_tape_10 rfl ?_
    refine lv_ldc2 (pc := 11) (v := (-1)) hx hb hown (hts _ tw_6_0) dX10_tape_11 ?_
    refine lv_ldc2 (pc := 14) (v := 4) hx hb hown (hts _ tw_4_97) dX10_tape_14 ?_
    obtain ⟨t3, e3, hf⟩ := q_ob hf
    refine x_cSn (pc := 17) (st1 := [.int t3]) X E hI (c_X10_in l G e3) ks_X10_85 hd_X10_in ⟨rfl, rfl⟩ (by decide) rfl hl.1 rfl (Nat.le_of_ble_eq_true rfl) dX10_tape_17 ⟨Nat.le_of_ble_eq_true rfl, Nat.le_of_ble_eq_true rfl⟩ rfl (fun H locs hI => ?_)
    refine lv_if_eq (pc := 20) (tgt := 34) hx hb dX10_tape_20 (by decide) (fun c4 => ?_) (fun c4 => ?_)
    · have hf := q_ip c4 hf
      refine lv_bipush (pc := 34) (v := (-2)) hx hb dX10_tape_34 (by decide) ?_
      obtain rfl := Option.some.inj hf
      exact x_iret X hI dX10_tape_36
    · have hf := q_in c4 hf
      refine lv_iload_n (pc := 23) hx hb dX10_tape_23 rfl (lv_at hl 2 rfl) ?_
      refine lv_iconst (pc := 24) (v := (-1)) hx hb dX10_tape_24 (by decide) ?_
      refine lv_icmp_eq (pc := 25) (tgt := 37) hx hb dX10_tape_25 (by decide) (fun c5 => ?_) (fun c5 => ?_)
      · have hf := q_ip c5 hf
        refine lv_iload_n (pc := 37) hx hb dX10_tape_37 rfl (lv_at hl 2 rfl) ?_
        refine lv_iconst (pc := 38) (v := (-1)) hx hb dX10_tape_38 (by decide) ?_
        refine lv_icmp_eq (pc := 39) (tgt := 49) hx hb dX10_tape_39 (by decide) (fun c6 => ?_) (fun c6 => ?_)
        · have hf := q_ip c6 hf
          refine lv_aload_n (pc := 49) hx hb dX10_tape_49 rfl (lv_at hl 0 rfl) ?_
          refine x_get (pc := 50) X E hI inX10 0 rfl rfl 28 (by decide) tw_4_17 rfl dX10_tape_50 ?_
          refine lv_iload_n (pc := 53) hx hb dX10_tape_53 rfl (lv_at hl 1 rfl) ?_
          refine lv_iload_n (pc := 54) hx hb dX10_tape_54 rfl (lv_at hl 2 rfl) ?_
          obtain ⟨t7, e7, hf⟩ := q_ob hf
          refine x_iast (pc := 55) (w' := (mw G h z_thrown z_s z_kept z_isKept z_moveMany z_moves z_hands z_troubles z_troubleSorts z_troubleNumbers z_asked z_paint z_leasts z_isSeen z_classMany z_types z_typeCounts z_typeMany z_text z_signs z_at z_lacks z_clauses z_begun z_letters z_firsts z_seconds z_aside t7 z_sizes z_items)) X E hI 18 rfl e7 rfl dX10_tape_55 (fun H locs hI => ?_)
          refine lv_aload_n (pc := 56) hx hb dX10_tape_56 rfl (lv_at hl 0 rfl) ?_
          refine x_get (pc := 57) X E hI inX10 0 rfl rfl 29 (by decide) tw_4_18 rfl dX10_tape_57 ?_
          refine lv_iload_n (pc := 60) hx hb dX10_tape_60 rfl (lv_at hl 1 rfl) ?_
          refine lv_iload_n (pc := 61) hx hb dX10_tape_61 rfl (lv_at hl 2 rfl) ?_
          refine lv_iconst (pc := 62) (v := (-1)) hx hb dX10_tape_62 (by decide) ?_
          refine lv_icmp_ne (pc := 63) (tgt := 70) hx hb dX10_tape_63 (by decide) (fun c8 => ?_) (fun c8 => ?_)
          · have hf := q_in c8 hf
            refine lv_iload_n (pc := 70) hx hb dX10_tape_70 rfl (lv_at hl 3 rfl) ?_
            obtain ⟨t9, e9, hf⟩ := q_ob hf
            refine x_iast (pc := 71) (w' := (mw G h z_thrown z_s z_kept z_isKept z_moveMany z_moves z_hands z_troubles z_troubleSorts z_troubleNumbers z_asked z_paint z_leasts z_isSeen z_classMany z_types z_typeCounts z_typeMany z_text z_signs z_at z_lacks z_clauses z_begun z_letters z_firsts z_seconds z_aside t7 t9 z_items)) X E hI 19 rfl e9 rfl dX10_tape_71 (fun H locs hI => ?_)
            refine lv_iconst (pc := 72) (v := 0) hx hb dX10_tape_72 (by decide) ?_
            refine lv_istore (pc := 73) (lv' := [(4, .int 0), (0, .ref (h 0)), (1, .int l1), (2, .int l2), (3, .int l3)]) hx hb dX10_tape_73 hl (by decide) rfl (fun ls hl => ?_)
            refine k_X10_tape_L75 X E (fun l4_10 z_items_10 H locs ls hI hl hf => ?_) hI (lv_sub hl [1, 2, 0] rfl) hf
            refine lv_iconst (pc := 101) (v := 1) hx hb dX10_tape_101 (by decide) ?_
            obtain rfl := Option.some.inj hf
            exact x_iret X hI dX10_tape_102
          · have hf := q_ip c8 hf
            refine lv_iconst (pc := 66) (v := 0) hx hb dX10_tape_66 (by decide) ?_
            refine lv_goto (pc := 67) (tgt := 71) hx hb dX10_tape_67 (by decide) ?_
            obtain ⟨t11, e11, hf⟩ := q_ob hf
            refine x_iast (pc := 71) (w' := (mw G h z_thrown z_s z_kept z_isKept z_moveMany z_moves z_hands z_troubles z_troubleSorts z_troubleNumbers z_asked z_paint z_leasts z_isSeen z_classMany z_types z_typeCounts z_typeMany z_text z_signs z_at z_lacks z_clauses z_begun z_letters z_firsts z_seconds z_aside t7 t11 z_items)) X E hI 19 rfl e11 rfl dX10_tape_71 (fun H locs hI => ?_)
            refine lv_iconst (pc := 72) (v := 0) hx hb dX10_tape_72 (by decide) ?_
            refine lv_istore (pc := 73) (lv' := [(4, .int 0), (0, .ref (h 0)), (1, .int l1), (2, .int l2), (3, .int l3)]) hx hb dX10_tape_73 hl (by decide) rfl (fun ls hl => ?_)
            refine k_X10_tape_L75 X E (fun l4_12 z_items_12 H locs ls hI hl hf => ?_) hI (lv_sub hl [1, 2, 0] rfl) hf
            refine lv_iconst (pc := 101) (v := 1) hx hb dX10_tape_101 (by decide) ?_
            obtain rfl := Option.some.inj hf
            exact x_iret X hI dX10_tape_102
        · have hf := q_in c6 hf
          refine lv_iload_n (pc := 42) hx hb dX10_tape_42 rfl (lv_at hl 3 rfl) ?_
          refine lv_if_ge (pc := 43) (tgt := 49) hx hb dX10_tape_43 (by decide) (fun c13 => ?_) (fun c13 => ?_)
          · have hf := q_ip c13 hf
            refine lv_aload_n (pc := 49) hx hb dX10_tape_49 rfl (lv_at hl 0 rfl) ?_
            refine x_get (pc := 50) X E hI inX10 0 rfl rfl 28 (by decide) tw_4_17 rfl dX10_tape_50 ?_
            refine lv_iload_n (pc := 53) hx hb dX10_tape_53 rfl (lv_at hl 1 rfl) ?_
            refine lv_iload_n (pc := 54) hx hb dX10_tape_54 rfl (lv_at hl 2 rfl) ?_
            obtain ⟨t14, e14, hf⟩ := q_ob hf
            refine x_iast (pc := 55) (w' := (mw G h z_thrown z_s z_kept z_isKept z_moveMany z_moves z_hands z_troubles z_troubleSorts z_troubleNumbers z_asked z_paint z_leasts z_isSeen z_classMany z_types z_typeCounts z_typeMany z_text z_signs z_at z_lacks z_clauses z_begun z_letters z_firsts z_seconds z_aside t14 z_sizes z_items)) X E hI 18 rfl e14 rfl dX10_tape_55 (fun H locs hI => ?_)
            refine lv_aload_n (pc := 56) hx hb dX10_tape_56 rfl (lv_at hl 0 rfl) ?_
            refine x_get (pc := 57) X E hI inX10 0 rfl rfl 29 (by decide) tw_4_18 rfl dX10_tape_57 ?_
            refine lv_iload_n (pc := 60) hx hb dX10_tape_60 rfl (lv_at hl 1 rfl) ?_
            refine lv_iload_n (pc := 61) hx hb dX10_tape_61 rfl (lv_at hl 2 rfl) ?_
            refine lv_iconst (pc := 62) (v := (-1)) hx hb dX10_tape_62 (by decide) ?_
            refine lv_icmp_ne (pc := 63) (tgt := 70) hx hb dX10_tape_63 (by decide) (fun c15 => ?_) (fun c15 => ?_)
            · have hf := q_in c15 hf
              refine lv_iload_n (pc := 70) hx hb dX10_tape_70 rfl (lv_at hl 3 rfl) ?_
              obtain ⟨t16, e16, hf⟩ := q_ob hf
              refine x_iast (pc := 71) (w' := (mw G h z_thrown z_s z_kept z_isKept z_moveMany z_moves z_hands z_troubles z_troubleSorts z_troubleNumbers z_asked z_paint z_leasts z_isSeen z_classMany z_types z_typeCounts z_typeMany z_text z_signs z_at z_lacks z_clauses z_begun z_letters z_firsts z_seconds z_aside t14 t16 z_items)) X E hI 19 rfl e16 rfl dX10_tape_71 (fun H locs hI => ?_)
              refine lv_iconst (pc := 72) (v := 0) hx hb dX10_tape_72 (by decide) ?_
              refine lv_istore (pc := 73) (lv' := [(4, .int 0), (0, .ref (h 0)), (1, .int l1), (2, .int l2), (3, .int l3)]) hx hb dX10_tape_73 hl (by decide) rfl (fun ls hl => ?_)
              refine k_X10_tape_L75 X E (fun l4_17 z_items_17 H locs ls hI hl hf => ?_) hI (lv_sub hl [1, 2, 0] rfl) hf
              refine lv_iconst (pc := 101) (v := 1) hx hb dX10_tape_101 (by decide) ?_
              obtain rfl := Option.some.inj hf
              exact x_iret X hI dX10_tape_102
            · have hf := q_ip c15 hf
              refine lv_iconst (pc := 66) (v := 0) hx hb dX10_tape_66 (by decide) ?_
              refine lv_goto (pc := 67) (tgt := 71) hx hb dX10_tape_67 (by decide) ?_
              obtain ⟨t18, e18, hf⟩ := q_ob hf
              refine x_iast (pc := 71) (w' := (mw G h z_thrown z_s z_kept z_isKept z_moveMany z_moves z_hands z_troubles z_troubleSorts z_troubleNumbers z_asked z_paint z_leasts z_isSeen z_classMany z_types z_typeCounts z_typeMany z_text z_signs z_at z_lacks z_clauses z_begun z_letters z_firsts z_seconds z_aside t14 t18 z_items)) X E hI 19 rfl e18 rfl dX10_tape_71 (fun H locs hI => ?_)
              refine lv_iconst (pc := 72) (v := 0) hx hb dX10_tape_72 (by decide) ?_
              refine lv_istore (pc := 73) (lv' := [(4, .int 0), (0, .ref (h 0)), (1, .int l1), (2, .int l2), (3, .int l3)]) hx hb dX10_tape_73 hl (by decide) rfl (fun ls hl => ?_)
              refine k_X10_tape_L75 X E (fun l4_19 z_items_19 H locs ls hI hl hf => ?_) hI (lv_sub hl [1, 2, 0] rfl) hf
              refine lv_iconst (pc := 101) (v := 1) hx hb dX10_tape_101 (by decide) ?_
              obtain rfl := Option.some.inj hf
              exact x_iret X hI dX10_tape_102
          · have hf := q_in c13 hf
            refine lv_bipush (pc := 46) (v := (-14)) hx hb dX10_tape_46 (by decide) ?_
            obtain rfl := Option.some.inj hf
            exact x_iret X hI dX10_tape_48
      · have hf := q_in c5 hf
        refine lv_iload_n (pc := 28) hx hb dX10_tape_28 rfl (lv_at hl 3 rfl) ?_
        refine lv_bipush (pc := 29) (v := 60) hx hb dX10_tape_29 (by decide) ?_
        refine lv_icmp_le (pc := 31) (tgt := 37) hx hb dX10_tape_31 (by decide) (fun c20 => ?_) (fun c20 => ?_)
        · have hf := q_ip c20 hf
          refine lv_iload_n (pc := 37) hx hb dX10_tape_37 rfl (lv_at hl 2 rfl) ?_
          refine lv_iconst (pc := 38) (v := (-1)) hx hb dX10_tape_38 (by decide) ?_
          refine lv_icmp_eq (pc := 39) (tgt := 49) hx hb dX10_tape_39 (by decide) (fun c21 => ?_) (fun c21 => ?_)
          · have hf := q_ip c21 hf
            refine lv_aload_n (pc := 49) hx hb dX10_tape_49 rfl (lv_at hl 0 rfl) ?_
            refine x_get (pc := 50) X E hI inX10 0 rfl rfl 28 (by decide) tw_4_17 rfl dX10_tape_50 ?_
            refine lv_iload_n (pc := 53) hx hb dX10_tape_53 rfl (lv_at hl 1 rfl) ?_
            refine lv_iload_n (pc := 54) hx hb dX10_tape_54 rfl (lv_at hl 2 rfl) ?_
            obtain ⟨t22, e22, hf⟩ := q_ob hf
            refine x_iast (pc := 55) (w' := (mw G h z_thrown z_s z_kept z_isKept z_moveMany z_moves z_hands z_troubles z_troubleSorts z_troubleNumbers z_asked z_paint z_leasts z_isSeen z_classMany z_types z_typeCounts z_typeMany z_text z_signs z_at z_lacks z_clauses z_begun z_letters z_firsts z_seconds z_aside t22 z_sizes z_items)) X E hI 18 rfl e22 rfl dX10_tape_55 (fun H locs hI => ?_)
            refine lv_aload_n (pc := 56) hx hb dX10_tape_56 rfl (lv_at hl 0 rfl) ?_
            refine x_get (pc := 57) X E hI inX10 0 rfl rfl 29 (by decide) tw_4_18 rfl dX10_tape_57 ?_
            refine lv_iload_n (pc := 60) hx hb dX10_tape_60 rfl (lv_at hl 1 rfl) ?_
            refine lv_iload_n (pc := 61) hx hb dX10_tape_61 rfl (lv_at hl 2 rfl) ?_
            refine lv_iconst (pc := 62) (v := (-1)) hx hb dX10_tape_62 (by decide) ?_
            refine lv_icmp_ne (pc := 63) (tgt := 70) hx hb dX10_tape_63 (by decide) (fun c23 => ?_) (fun c23 => ?_)
            · have hf := q_in c23 hf
              refine lv_iload_n (pc := 70) hx hb dX10_tape_70 rfl (lv_at hl 3 rfl) ?_
              obtain ⟨t24, e24, hf⟩ := q_ob hf
              refine x_iast (pc := 71) (w' := (mw G h z_thrown z_s z_kept z_isKept z_moveMany z_moves z_hands z_troubles z_troubleSorts z_troubleNumbers z_asked z_paint z_leasts z_isSeen z_classMany z_types z_typeCounts z_typeMany z_text z_signs z_at z_lacks z_clauses z_begun z_letters z_firsts z_seconds z_aside t22 t24 z_items)) X E hI 19 rfl e24 rfl dX10_tape_71 (fun H locs hI => ?_)
              refine lv_iconst (pc := 72) (v := 0) hx hb dX10_tape_72 (by decide) ?_
              refine lv_istore (pc := 73) (lv' := [(4, .int 0), (0, .ref (h 0)), (1, .int l1), (2, .int l2), (3, .int l3)]) hx hb dX10_tape_73 hl (by decide) rfl (fun ls hl => ?_)
              refine k_X10_tape_L75 X E (fun l4_25 z_items_25 H locs ls hI hl hf => ?_) hI (lv_sub hl [1, 2, 0] rfl) hf
              refine lv_iconst (pc := 101) (v := 1) hx hb dX10_tape_101 (by decide) ?_
              obtain rfl := Option.some.inj hf
              exact x_iret X hI dX10_tape_102
            · have hf := q_ip c23 hf
              refine lv_iconst (pc := 66) (v := 0) hx hb dX10_tape_66 (by decide) ?_
              refine lv_goto (pc := 67) (tgt := 71) hx hb dX10_tape_67 (by decide) ?_
              obtain ⟨t26, e26, hf⟩ := q_ob hf
              refine x_iast (pc := 71) (w' := (mw G h z_thrown z_s z_kept z_isKept z_moveMany z_moves z_hands z_troubles z_troubleSorts z_troubleNumbers z_asked z_paint z_leasts z_isSeen z_classMany z_types z_typeCounts z_typeMany z_text z_signs z_at z_lacks z_clauses z_begun z_letters z_firsts z_seconds z_aside t22 t26 z_items)) X E hI 19 rfl e26 rfl dX10_tape_71 (fun H locs hI => ?_)
              refine lv_iconst (pc := 72) (v := 0) hx hb dX10_tape_72 (by decide) ?_
              refine lv_istore (pc := 73) (lv' := [(4, .int 0), (0, .ref (h 0)), (1, .int l1), (2, .int l2), (3, .int l3)]) hx hb dX10_tape_73 hl (by decide) rfl (fun ls hl => ?_)
              refine k_X10_tape_L75 X E (fun l4_27 z_items_27 H locs ls hI hl hf => ?_) hI (lv_sub hl [1, 2, 0] rfl) hf
              refine lv_iconst (pc := 101) (v := 1) hx hb dX10_tape_101 (by decide) ?_
              obtain rfl := Option.some.inj hf
              exact x_iret X hI dX10_tape_102
          · have hf := q_in c21 hf
            refine lv_iload_n (pc := 42) hx hb dX10_tape_42 rfl (lv_at hl 3 rfl) ?_
            refine lv_if_ge (pc := 43) (tgt := 49) hx hb dX10_tape_43 (by decide) (fun c28 => ?_) (fun c28 => ?_)
            · have hf := q_ip c28 hf
              refine lv_aload_n (pc := 49) hx hb dX10_tape_49 rfl (lv_at hl 0 rfl) ?_
              refine x_get (pc := 50) X E hI inX10 0 rfl rfl 28 (by decide) tw_4_17 rfl dX10_tape_50 ?_
              refine lv_iload_n (pc := 53) hx hb dX10_tape_53 rfl (lv_at hl 1 rfl) ?_
              refine lv_iload_n (pc := 54) hx hb dX10_tape_54 rfl (lv_at hl 2 rfl) ?_
              obtain ⟨t29, e29, hf⟩ := q_ob hf
              refine x_iast (pc := 55) (w' := (mw G h z_thrown z_s z_kept z_isKept z_moveMany z_moves z_hands z_troubles z_troubleSorts z_troubleNumbers z_asked z_paint z_leasts z_isSeen z_classMany z_types z_typeCounts z_typeMany z_text z_signs z_at z_lacks z_clauses z_begun z_letters z_firsts z_seconds z_aside t29 z_sizes z_items)) X E hI 18 rfl e29 rfl dX10_tape_55 (fun H locs hI => ?_)
              refine lv_aload_n (pc := 56) hx hb dX10_tape_56 rfl (lv_at hl 0 rfl) ?_
              refine x_get (pc := 57) X E hI inX10 0 rfl rfl 29 (by decide) tw_4_18 rfl dX10_tape_57 ?_
              refine lv_iload_n (pc := 60) hx hb dX10_tape_60 rfl (lv_at hl 1 rfl) ?_
              refine lv_iload_n (pc := 61) hx hb dX10_tape_61 rfl (lv_at hl 2 rfl) ?_
              refine lv_iconst (pc := 62) (v := (-1)) hx hb dX10_tape_62 (by decide) ?_
              refine lv_icmp_ne (pc := 63) (tgt := 70) hx hb dX10_tape_63 (by decide) (fun c30 => ?_) (fun c30 => ?_)
              · have hf := q_in c30 hf
                refine lv_iload_n (pc := 70) hx hb dX10_tape_70 rfl (lv_at hl 3 rfl) ?_
                obtain ⟨t31, e31, hf⟩ := q_ob hf
                refine x_iast (pc := 71) (w' := (mw G h z_thrown z_s z_kept z_isKept z_moveMany z_moves z_hands z_troubles z_troubleSorts z_troubleNumbers z_asked z_paint z_leasts z_isSeen z_classMany z_types z_typeCounts z_typeMany z_text z_signs z_at z_lacks z_clauses z_begun z_letters z_firsts z_seconds z_aside t29 t31 z_items)) X E hI 19 rfl e31 rfl dX10_tape_71 (fun H locs hI => ?_)
                refine lv_iconst (pc := 72) (v := 0) hx hb dX10_tape_72 (by decide) ?_
                refine lv_istore (pc := 73) (lv' := [(4, .int 0), (0, .ref (h 0)), (1, .int l1), (2, .int l2), (3, .int l3)]) hx hb dX10_tape_73 hl (by decide) rfl (fun ls hl => ?_)
                refine k_X10_tape_L75 X E (fun l4_32 z_items_32 H locs ls hI hl hf => ?_) hI (lv_sub hl [1, 2, 0] rfl) hf
                refine lv_iconst (pc := 101) (v := 1) hx hb dX10_tape_101 (by decide) ?_
                obtain rfl := Option.some.inj hf
                exact x_iret X hI dX10_tape_102
              · have hf := q_ip c30 hf
                refine lv_iconst (pc := 66) (v := 0) hx hb dX10_tape_66 (by decide) ?_
                refine lv_goto (pc := 67) (tgt := 71) hx hb dX10_tape_67 (by decide) ?_
                obtain ⟨t33, e33, hf⟩ := q_ob hf
                refine x_iast (pc := 71) (w' := (mw G h z_thrown z_s z_kept z_isKept z_moveMany z_moves z_hands z_troubles z_troubleSorts z_troubleNumbers z_asked z_paint z_leasts z_isSeen z_classMany z_types z_typeCounts z_typeMany z_text z_signs z_at z_lacks z_clauses z_begun z_letters z_firsts z_seconds z_aside t29 t33 z_items)) X E hI 19 rfl e33 rfl dX10_tape_71 (fun H locs hI => ?_)
                refine lv_iconst (pc := 72) (v := 0) hx hb dX10_tape_72 (by decide) ?_
                refine lv_istore (pc := 73) (lv' := [(4, .int 0), (0, .ref (h 0)), (1, .int l1), (2, .int l2), (3, .int l3)]) hx hb dX10_tape_73 hl (by decide) rfl (fun ls hl => ?_)
                refine k_X10_tape_L75 X E (fun l4_34 z_items_34 H locs ls hI hl hf => ?_) hI (lv_sub hl [1, 2, 0] rfl) hf
                refine lv_iconst (pc := 101) (v := 1) hx hb dX10_tape_101 (by decide) ?_
                obtain rfl := Option.some.inj hf
                exact x_iret X hI dX10_tape_102
            · have hf := q_in c28 hf
              refine lv_bipush (pc := 46) (v := (-14)) hx hb dX10_tape_46 (by decide) ?_
              obtain rfl := Option.some.inj hf
              exact x_iret X hI dX10_tape_48
        · have hf := q_in c20 hf
          refine lv_bipush (pc := 34) (v := (-2)) hx hb dX10_tape_34 (by decide) ?_
          obtain rfl := Option.some.inj hf
          exact x_iret X hI dX10_tape_36
  · have hf := q_ip c2 hf
    refine lv_iconst (pc := 7) (v := (-1)) hx hb dX10_tape_7 (by decide) ?_
    obtain rfl := Option.some.inj hf
    exact x_iret X hI dX10_tape_8

abbrev rm_X10_item : Room := { frames := 2, cells := 0, slots := 0, locals := 45 }
set_option maxHeartbeats 4000000 in
set_option maxRecDepth 100000 in
theorem c_X10_item (l : Launch) (G : GX) (h : Nat → Nat) {l1 : Int32} {l2 : Int32} {l3 : Int64} {z_sorts : Nat → Int32} {z_sizes : Nat → Int32} {z_items : Nat → Int64} {z_thrown : Int32} {z_s : Nat → Int32} {z_kept : Nat → Int32} {z_isKept : Int32} {z_moveMany : Int32} {z_moves : Nat → Int32} {z_hands : Nat → Int32} {z_troubles : Int32} {z_troubleSorts : Nat → Int32} {z_troubleNumbers : Nat → Int32} {z_asked : Nat → Int32} {z_paint : Nat → Int32} {z_leasts : Nat → Int32} {z_isSeen : Nat → Int32} {z_classMany : Int32} {z_types : Nat → Int32} {z_typeCounts : Nat → Int32} {z_typeMany : Int32} {z_text : Nat → Int32} {z_signs : Int32} {z_at : Int32} {z_lacks : Int32} {z_clauses : Int32} {z_begun : Int32} {z_letters : Nat → Int32} {z_firsts : Nat → Int32} {z_seconds : Nat → Int32} {z_aside : Nat → Int32} {res : Int32 × (Nat → Int64)} (hf : f_X10_item l1 l2 l3 z_sorts z_sizes z_items = some res) : MX l yX10_item cX10_item 6 (some .int) rm_X10_item G (mw G h z_thrown z_s z_kept z_isKept z_moveMany z_moves z_hands z_troubles z_troubleSorts z_troubleNumbers z_asked z_paint z_leasts z_isSeen z_classMany z_types z_typeCounts z_typeMany z_text z_signs z_at z_lacks z_clauses z_begun z_letters z_firsts z_seconds z_aside z_sorts z_sizes z_items) [.ref (h 0), .int l1, .int l2, .long l3] (mw G h z_thrown z_s z_kept z_isKept z_moveMany z_moves z_hands z_troubles z_troubleSorts z_troubleNumbers z_asked z_paint z_leasts z_isSeen z_classMany z_types z_typeCounts z_typeMany z_text z_signs z_at z_lacks z_clauses z_begun z_letters z_firsts z_seconds z_aside z_sorts z_sizes res.2) (some (.int res.1)) 0 0 := by
  refine MX.of (plainFor_of_name (by decide)) (Nat.le_of_ble_eq_true rfl) ?_
  intro p e s m below meth c A X E hI ls hl
  obtain ⟨hx, hb, hml, hown, hts, hr, hlk⟩ := id X
  have hl : lv_has ls 6 [(0, .ref (h 0)), (1, .int l1), (2, .int l2), (3, .long l3)] := hl
  unfold f_X10_item at hf
  refine lv_iload_n (pc := 0) hx hb dX10_item_0 rfl (lv_at hl 1 rfl) ?_
  obtain ⟨t1, e1, hf⟩ := q_ob hf
  refine x_cSn (pc := 1) (st1 := [.int t1]) X E hI (c_X10_isTape l G e1) ks_X10_329 hd_X10_isTape ⟨rfl, rfl⟩ (by decide) rfl hl.1 rfl (Nat.le_of_ble_eq_true rfl) dX10_item_1 ⟨Nat.le_of_ble_eq_true rfl, Nat.le_of_ble_eq_true rfl⟩ rfl (fun H locs hI => ?_)
  refine lv_if_ne (pc := 4) (tgt := 9) hx hb dX10_item_4 (by decide) (fun c2 => ?_) (fun c2 => ?_)
  · have hf := q_in c2 hf
    refine lv_aload_n (pc := 9) hx hb dX10_item_9 rfl (lv_at hl 0 rfl) ?_
    refine x_get (pc := 10) X E hI inX10 0 rfl rfl 28 (by decide) tw_4_17 rfl dX10_item_10 ?_
    refine lv_iload_n (pc := 13) hx hb dX10_item_13 rfl (lv_at hl 1 rfl) ?_
    obtain ⟨t3, e3, hf⟩ := q_ob hf
    refine x_iald (pc := 14) X E hI 18 rfl e3 dX10_item_14 ?_
    refine lv_iconst (pc := 15) (v := (-1)) hx hb dX10_item_15 (by decide) ?_
    refine lv_icmp_ne (pc := 16) (tgt := 22) hx hb dX10_item_16 (by decide) (fun c4 => ?_) (fun c4 => ?_)
    · have hf := q_in c4 hf
      refine lv_iload_n (pc := 22) hx hb dX10_item_22 rfl (lv_at hl 2 rfl) ?_
      refine lv_i2l (pc := 23) (v := (l2 : Int32).toInt64) hx hb dX10_item_23 rfl ?_
      refine lv_lconst (pc := 24) (v := 0) hx hb dX10_item_24 (by decide) ?_
      refine lv_aload_n (pc := 25) hx hb dX10_item_25 rfl (lv_at hl 0 rfl) ?_
      refine x_get (pc := 26) X E hI inX10 0 rfl rfl 29 (by decide) tw_4_18 rfl dX10_item_26 ?_
      refine lv_iload_n (pc := 29) hx hb dX10_item_29 rfl (lv_at hl 1 rfl) ?_
      obtain ⟨t5, e5, hf⟩ := q_ob hf
      refine x_iald (pc := 30) X E hI 19 rfl e5 dX10_item_30 ?_
      refine lv_iconst (pc := 31) (v := 1) hx hb dX10_item_31 (by decide) ?_
      refine lv_isub (pc := 32) hx hb dX10_item_32 ?_
      refine lv_i2l (pc := 33) (v := (t5 - 1 : Int32).toInt64) hx hb dX10_item_33 rfl ?_
      obtain ⟨t6, e6, hf⟩ := q_ob hf
      refine x_cSn (pc := 34) (st1 := [.int t6]) X E hI (c_X10_in l G e6) ks_X10_85 hd_X10_in ⟨rfl, rfl⟩ (by decide) rfl hl.1 rfl (Nat.le_of_ble_eq_true rfl) dX10_item_34 ⟨Nat.le_of_ble_eq_true rfl, Nat.le_of_ble_eq_true rfl⟩ rfl (fun H locs hI => ?_)
      refine lv_if_ne (pc := 37) (tgt := 43) hx hb dX10_item_37 (by decide) (fun c7 => ?_) (fun c7 => ?_)
      · have hf := q_in c7 hf
        refine lv_aload_n (pc := 43) hx hb dX10_item_43 rfl (lv_at hl 0 rfl) ?_
        refine x_get (pc := 44) X E hI inX10 0 rfl rfl 28 (by decide) tw_4_17 rfl dX10_item_44 ?_
        refine lv_iload_n (pc := 47) hx hb dX10_item_47 rfl (lv_at hl 1 rfl) ?_
        obtain ⟨t8, e8, hf⟩ := q_ob hf
        refine x_iald (pc := 48) X E hI 18 rfl e8 dX10_item_48 ?_
        refine lv_istore (pc := 49) (lv' := [(5, .int t8), (0, .ref (h 0)), (1, .int l1), (2, .int l2), (3, .long l3)]) hx hb dX10_item_49 hl (by decide) rfl (fun ls hl => ?_)
        refine lv_aload_n (pc := 51) hx hb dX10_item_51 rfl (lv_at hl 1 rfl) ?_
        refine x_get (pc := 52) X E hI inX10 0 rfl rfl 30 (by decide) tw_4_19 rfl dX10_item_52 ?_
        refine lv_bipush (pc := 55) (v := 60) hx hb dX10_item_55 (by decide) ?_
        refine lv_iload_n (pc := 57) hx hb dX10_item_57 rfl (lv_at hl 2 rfl) ?_
        refine lv_imul (pc := 58) hx hb dX10_item_58 ?_
        refine lv_iload_n (pc := 59) hx hb dX10_item_59 rfl (lv_at hl 3 rfl) ?_
        refine lv_iadd (pc := 60) hx hb dX10_item_60 ?_
        refine lv_iload (pc := 61) hx hb dX10_item_61 (lv_at hl 0 rfl) ?_
        refine lv_if_ne (pc := 63) (tgt := 73) hx hb dX10_item_63 (by decide) (fun c9 => ?_) (fun c9 => ?_)
        · have hf := q_in c9 hf
          refine lv_iload (pc := 73) hx hb dX10_item_73 (lv_at hl 0 rfl) ?_
          refine lv_iconst (pc := 75) (v := 1) hx hb dX10_item_75 (by decide) ?_
          refine lv_icmp_ne (pc := 76) (tgt := 86) hx hb dX10_item_76 (by decide) (fun c10 => ?_) (fun c10 => ?_)
          · have hf := q_in c10 hf
            refine lv_iload (pc := 86) hx hb dX10_item_86 (lv_at hl 0 rfl) ?_
            refine lv_iconst (pc := 88) (v := 2) hx hb dX10_item_88 (by decide) ?_
            refine lv_icmp_ne (pc := 89) (tgt := 98) hx hb dX10_item_89 (by decide) (fun c11 => ?_) (fun c11 => ?_)
            · have hf := q_in c11 hf
              refine lv_iload (pc := 98) hx hb dX10_item_98 (lv_at hl 0 rfl) ?_
              refine lv_iconst (pc := 100) (v := 3) hx hb dX10_item_100 (by decide) ?_
              refine lv_icmp_ne (pc := 101) (tgt := 108) hx hb dX10_item_101 (by decide) (fun c12 => ?_) (fun c12 => ?_)
              · have hf := q_in c12 hf
                refine lv_lload_n (pc := 108) hx hb dX10_item_108 rfl (lv_at hl 4 rfl) ?_
                refine lv_lconst (pc := 109) (v := 0) hx hb dX10_item_109 (by decide) ?_
                refine W.lcmp (pc := 110) hx hb dX10_item_110 ?_
                refine lv_if_eq (pc := 111) (tgt := 118) hx hb dX10_item_111 (by decide) (fun c13 => ?_) (fun c13 => ?_)
                · have hf := q_ip c13 hf
                  refine lv_lconst (pc := 118) (v := 0) hx hb dX10_item_118 (by decide) ?_
                  obtain ⟨t14, e14, hf⟩ := q_ob hf
                  refine x_last (pc := 119) (w' := (mw G h z_thrown z_s z_kept z_isKept z_moveMany z_moves z_hands z_troubles z_troubleSorts z_troubleNumbers z_asked z_paint z_leasts z_isSeen z_classMany z_types z_typeCounts z_typeMany z_text z_signs z_at z_lacks z_clauses z_begun z_letters z_firsts z_seconds z_aside z_sorts z_sizes t14)) X E hI 20 rfl e14 rfl dX10_item_119 (fun H locs hI => ?_)
                  refine lv_iconst (pc := 120) (v := 1) hx hb dX10_item_120 (by decide) ?_
                  obtain rfl := Option.some.inj hf
                  exact x_iret X hI dX10_item_121
                · have hf := q_in c13 hf
                  refine lv_lconst (pc := 114) (v := 1) hx hb dX10_item_114 (by decide) ?_
                  refine lv_goto (pc := 115) (tgt := 119) hx hb dX10_item_115 (by decide) ?_
                  obtain ⟨t15, e15, hf⟩ := q_ob hf
                  refine x_last (pc := 119) (w' := (mw G h z_thrown z_s z_kept z_isKept z_moveMany z_moves z_hands z_troubles z_troubleSorts z_troubleNumbers z_asked z_paint z_leasts z_isSeen z_classMany z_types z_typeCounts z_typeMany z_text z_signs z_at z_lacks z_clauses z_begun z_letters z_firsts z_seconds z_aside z_sorts z_sizes t15)) X E hI 20 rfl e15 rfl dX10_item_119 (fun H locs hI => ?_)
                  refine lv_iconst (pc := 120) (v := 1) hx hb dX10_item_120 (by decide) ?_
                  obtain rfl := Option.some.inj hf
                  exact x_iret X hI dX10_item_121
              · have hf := q_ip c12 hf
                refine lv_lload_n (pc := 104) hx hb dX10_item_104 rfl (lv_at hl 4 rfl) ?_
                refine lv_goto (pc := 105) (tgt := 119) hx hb dX10_item_105 (by decide) ?_
                obtain ⟨t16, e16, hf⟩ := q_ob hf
                refine x_last (pc := 119) (w' := (mw G h z_thrown z_s z_kept z_isKept z_moveMany z_moves z_hands z_troubles z_troubleSorts z_troubleNumbers z_asked z_paint z_leasts z_isSeen z_classMany z_types z_typeCounts z_typeMany z_text z_signs z_at z_lacks z_clauses z_begun z_letters z_firsts z_seconds z_aside z_sorts z_sizes t16)) X E hI 20 rfl e16 rfl dX10_item_119 (fun H locs hI => ?_)
                refine lv_iconst (pc := 120) (v := 1) hx hb dX10_item_120 (by decide) ?_
                obtain rfl := Option.some.inj hf
                exact x_iret X hI dX10_item_121
            · have hf := q_ip c11 hf
              refine lv_lload_n (pc := 92) hx hb dX10_item_92 rfl (lv_at hl 4 rfl) ?_
              refine lv_l2i (pc := 93) (v := (l3 : Int64).toInt32) hx hb dX10_item_93 rfl ?_
              refine lv_i2l (pc := 94) (v := ((l3 : Int64).toInt32 : Int32).toInt64) hx hb dX10_item_94 rfl ?_
              refine lv_goto (pc := 95) (tgt := 119) hx hb dX10_item_95 (by decide) ?_
              obtain ⟨t17, e17, hf⟩ := q_ob hf
              refine x_last (pc := 119) (w' := (mw G h z_thrown z_s z_kept z_isKept z_moveMany z_moves z_hands z_troubles z_troubleSorts z_troubleNumbers z_asked z_paint z_leasts z_isSeen z_classMany z_types z_typeCounts z_typeMany z_text z_signs z_at z_lacks z_clauses z_begun z_letters z_firsts z_seconds z_aside z_sorts z_sizes t17)) X E hI 20 rfl e17 rfl dX10_item_119 (fun H locs hI => ?_)
              refine lv_iconst (pc := 120) (v := 1) hx hb dX10_item_120 (by decide) ?_
              obtain rfl := Option.some.inj hf
              exact x_iret X hI dX10_item_121
          · have hf := q_ip c10 hf
            refine lv_lload_n (pc := 79) hx hb dX10_item_79 rfl (lv_at hl 4 rfl) ?_
            refine lv_l2i (pc := 80) (v := (l3 : Int64).toInt32) hx hb dX10_item_80 rfl ?_
            refine lv_i2s (pc := 81) (v := ((l3 : Int64).toInt32 : Int32).toInt16.toInt32) hx hb dX10_item_81 rfl ?_
            refine lv_i2l (pc := 82) (v := (((l3 : Int64).toInt32 : Int32).toInt16.toInt32 : Int32).toInt64) hx hb dX10_item_82 rfl ?_
            refine lv_goto (pc := 83) (tgt := 119) hx hb dX10_item_83 (by decide) ?_
            obtain ⟨t18, e18, hf⟩ := q_ob hf
            refine x_last (pc := 119) (w' := (mw G h z_thrown z_s z_kept z_isKept z_moveMany z_moves z_hands z_troubles z_troubleSorts z_troubleNumbers z_asked z_paint z_leasts z_isSeen z_classMany z_types z_typeCounts z_typeMany z_text z_signs z_at z_lacks z_clauses z_begun z_letters z_firsts z_seconds z_aside z_sorts z_sizes t18)) X E hI 20 rfl e18 rfl dX10_item_119 (fun H locs hI => ?_)
            refine lv_iconst (pc := 120) (v := 1) hx hb dX10_item_120 (by decide) ?_
            obtain rfl := Option.some.inj hf
            exact x_iret X hI dX10_item_121
        · have hf := q_ip c9 hf
          refine lv_lload_n (pc := 66) hx hb dX10_item_66 rfl (lv_at hl 4 rfl) ?_
          refine lv_l2i (pc := 67) (v := (l3 : Int64).toInt32) hx hb dX10_item_67 rfl ?_
          refine lv_i2b (pc := 68) (v := ((l3 : Int64).toInt32 : Int32).toInt8.toInt32) hx hb dX10_item_68 rfl ?_
          refine lv_i2l (pc := 69) (v := (((l3 : Int64).toInt32 : Int32).toInt8.toInt32 : Int32).toInt64) hx hb dX10_item_69 rfl ?_
          refine lv_goto (pc := 70) (tgt := 119) hx hb dX10_item_70 (by decide) ?_
          obtain ⟨t19, e19, hf⟩ := q_ob hf
          refine x_last (pc := 119) (w' := (mw G h z_thrown z_s z_kept z_isKept z_moveMany z_moves z_hands z_troubles z_troubleSorts z_troubleNumbers z_asked z_paint z_leasts z_isSeen z_classMany z_types z_typeCounts z_typeMany z_text z_signs z_at z_lacks z_clauses z_begun z_letters z_firsts z_seconds z_aside z_sorts z_sizes t19)) X E hI 20 rfl e19 rfl dX10_item_119 (fun H locs hI => ?_)
          refine lv_iconst (pc := 120) (v := 1) hx hb dX10_item_120 (by decide) ?_
          obtain rfl := Option.some.inj hf
          exact x_iret X hI dX10_item_121
      · have hf := q_ip c7 hf
        refine lv_bipush (pc := 40) (v := (-13)) hx hb dX10_item_40 (by decide) ?_
        obtain rfl := Option.some.inj hf
        exact x_iret X hI dX10_item_42
    · have hf := q_ip c4 hf
      refine lv_bipush (pc := 19) (v := (-11)) hx hb dX10_item_19 (by decide) ?_
      obtain rfl := Option.some.inj hf
      exact x_iret X hI dX10_item_21
  · have hf := q_ip c2 hf
    refine lv_iconst (pc := 7) (v := (-1)) hx hb dX10_item_7 (by decide) ?_
    obtain rfl := Option.some.inj hf
    exact x_iret X hI dX10_item_8

abbrev rm_X10_peek : Room := { frames := 2, cells := 0, slots := 0, locals := 45 }
set_option maxHeartbeats 4000000 in
set_option maxRecDepth 100000 in
theorem c_X10_peek (l : Launch) (G : GX) (h : Nat → Nat) {l1 : Int32} {l2 : Int32} {z_sorts : Nat → Int32} {z_sizes : Nat → Int32} {z_items : Nat → Int64} {z_thrown : Int32} {z_s : Nat → Int32} {z_kept : Nat → Int32} {z_isKept : Int32} {z_moveMany : Int32} {z_moves : Nat → Int32} {z_hands : Nat → Int32} {z_troubles : Int32} {z_troubleSorts : Nat → Int32} {z_troubleNumbers : Nat → Int32} {z_asked : Nat → Int32} {z_paint : Nat → Int32} {z_leasts : Nat → Int32} {z_isSeen : Nat → Int32} {z_classMany : Int32} {z_types : Nat → Int32} {z_typeCounts : Nat → Int32} {z_typeMany : Int32} {z_text : Nat → Int32} {z_signs : Int32} {z_at : Int32} {z_lacks : Int32} {z_clauses : Int32} {z_begun : Int32} {z_letters : Nat → Int32} {z_firsts : Nat → Int32} {z_seconds : Nat → Int32} {z_aside : Nat → Int32} {res : Int64} (hf : f_X10_peek l1 l2 z_sorts z_sizes z_items = some res) : MX l yX10_peek cX10_peek 3 (some .long) rm_X10_peek G (mw G h z_thrown z_s z_kept z_isKept z_moveMany z_moves z_hands z_troubles z_troubleSorts z_troubleNumbers z_asked z_paint z_leasts z_isSeen z_classMany z_types z_typeCounts z_typeMany z_text z_signs z_at z_lacks z_clauses z_begun z_letters z_firsts z_seconds z_aside z_sorts z_sizes z_items) [.ref (h 0), .int l1, .int l2] (mw G h z_thrown z_s z_kept z_isKept z_moveMany z_moves z_hands z_troubles z_troubleSorts z_troubleNumbers z_asked z_paint z_leasts z_isSeen z_classMany z_types z_typeCounts z_typeMany z_text z_signs z_at z_lacks z_clauses z_begun z_letters z_firsts z_seconds z_aside z_sorts z_sizes z_items) (some (.long res)) 0 0 := by
  refine MX.of (plainFor_of_name (by decide)) (Nat.le_of_ble_eq_true rfl) ?_
  intro p e s m below meth c A X E hI ls hl
  obtain ⟨hx, hb, hml, hown, hts, hr, hlk⟩ := id X
  have hl : lv_has ls 3 [(0, .ref (h 0)), (1, .int l1), (2, .int l2)] := hl
  unfold f_X10_peek at hf
  refine lv_iload_n (pc := 0) hx hb dX10_peek_0 rfl (lv_at hl 1 rfl) ?_
  obtain ⟨t1, e1, hf⟩ := q_ob hf
  refine x_cSn (pc := 1) (st1 := [.int t1]) X E hI (c_X10_isTape l G e1) ks_X10_329 hd_X10_isTape ⟨rfl, rfl⟩ (by decide) rfl hl.1 rfl (Nat.le_of_ble_eq_true rfl) dX10_peek_1 ⟨Nat.le_of_ble_eq_true rfl, Nat.le_of_ble_eq_true rfl⟩ rfl (fun H locs hI => ?_)
  refine lv_if_eq (pc := 4) (tgt := 49) hx hb dX10_peek_4 (by decide) (fun c2 => ?_) (fun c2 => ?_)
  · have hf := q_ip c2 hf
    refine lv_ldc2 (pc := 49) (v := (-9223372036854775808)) hx hb hown (hts _ tw_5_47) dX10_peek_49 ?_
    obtain rfl := Option.some.inj hf
    exact x_lret X hI dX10_peek_52
  · have hf := q_in c2 hf
    refine lv_aload_n (pc := 7) hx hb dX10_peek_7 rfl (lv_at hl 0 rfl) ?_
    refine x_get (pc := 8) X E hI inX10 0 rfl rfl 28 (by decide) tw_4_17 rfl dX10_peek_8 ?_
    refine lv_iload_n (pc := 11) hx hb dX10_peek_11 rfl (lv_at hl 1 rfl) ?_
    obtain ⟨t3, e3, hf⟩ := q_ob hf
    refine x_iald (pc := 12) X E hI 18 rfl e3 dX10_peek_12 ?_
    refine lv_iconst (pc := 13) (v := (-1)) hx hb dX10_peek_13 (by decide) ?_
    refine lv_icmp_eq (pc := 14) (tgt := 49) hx hb dX10_peek_14 (by decide) (fun c4 => ?_) (fun c4 => ?_)
    · have hf := q_ip c4 hf
      refine lv_ldc2 (pc := 49) (v := (-9223372036854775808)) hx hb hown (hts _ tw_5_47) dX10_peek_49 ?_
      obtain rfl := Option.some.inj hf
      exact x_lret X hI dX10_peek_52
    · have hf := q_in c4 hf
      refine lv_iload_n (pc := 17) hx hb dX10_peek_17 rfl (lv_at hl 2 rfl) ?_
      refine lv_i2l (pc := 18) (v := (l2 : Int32).toInt64) hx hb dX10_peek_18 rfl ?_
      refine lv_lconst (pc := 19) (v := 0) hx hb dX10_peek_19 (by decide) ?_
      refine lv_aload_n (pc := 20) hx hb dX10_peek_20 rfl (lv_at hl 0 rfl) ?_
      refine x_get (pc := 21) X E hI inX10 0 rfl rfl 29 (by decide) tw_4_18 rfl dX10_peek_21 ?_
      refine lv_iload_n (pc := 24) hx hb dX10_peek_24 rfl (lv_at hl 1 rfl) ?_
      obtain ⟨t5, e5, hf⟩ := q_ob hf
      refine x_iald (pc := 25) X E hI 19 rfl e5 dX10_peek_25 ?_
      refine lv_iconst (pc := 26) (v := 1) hx hb dX10_peek_26 (by decide) ?_
      refine lv_isub (pc := 27) hx hb dX10_peek_27 ?_
      refine lv_i2l (pc := 28) (v := (t5 - 1 : Int32).toInt64) hx hb dX10_peek_28 rfl ?_
      obtain ⟨t6, e6, hf⟩ := q_ob hf
      refine x_cSn (pc := 29) (st1 := [.int t6]) X E hI (c_X10_in l G e6) ks_X10_85 hd_X10_in ⟨rfl, rfl⟩ (by decide) rfl hl.1 rfl (Nat.le_of_ble_eq_true rfl) dX10_peek_29 ⟨Nat.le_of_ble_eq_true rfl, Nat.le_of_ble_eq_true rfl⟩ rfl (fun H locs hI => ?_)
      refine lv_if_eq (pc := 32) (tgt := 49) hx hb dX10_peek_32 (by decide) (fun c7 => ?_) (fun c7 => ?_)
      · have hf := q_ip c7 hf
        refine lv_ldc2 (pc := 49) (v := (-9223372036854775808)) hx hb hown (hts _ tw_5_47) dX10_peek_49 ?_
        obtain rfl := Option.some.inj hf
        exact x_lret X hI dX10_peek_52
      · have hf := q_in c7 hf
        refine lv_aload_n (pc := 35) hx hb dX10_peek_35 rfl (lv_at hl 0 rfl) ?_
        refine x_get (pc := 36) X E hI inX10 0 rfl rfl 30 (by decide) tw_4_19 rfl dX10_peek_36 ?_
        refine lv_bipush (pc := 39) (v := 60) hx hb dX10_peek_39 (by decide) ?_
        refine lv_iload_n (pc := 41) hx hb dX10_peek_41 rfl (lv_at hl 1 rfl) ?_
        refine lv_imul (pc := 42) hx hb dX10_peek_42 ?_
        refine lv_iload_n (pc := 43) hx hb dX10_peek_43 rfl (lv_at hl 2 rfl) ?_
        refine lv_iadd (pc := 44) hx hb dX10_peek_44 ?_
        obtain ⟨t8, e8, hf⟩ := q_ob hf
        refine x_lald (pc := 45) X E hI 20 rfl e8 dX10_peek_45 ?_
        refine lv_goto (pc := 46) (tgt := 52) hx hb dX10_peek_46 (by decide) ?_
        obtain rfl := Option.some.inj hf
        exact x_lret X hI dX10_peek_52

abbrev rm_X10_shift : Room := { frames := 2, cells := 0, slots := 0, locals := 45 }
set_option maxHeartbeats 4000000 in
set_option maxRecDepth 100000 in
theorem k_X10_shift_L122 {p : Program} {l : Launch} {e : Env} {s : State} {m : MethodId} {args : Array Value} {below : List Frame} {meth : Method} {c : Code} {A : Nat → Prop} {G : GX} {h : Nat → Nat} {l1 : Int32} {l2 : Int32} {l3 : Int32} {l4 : Int32} {l5 : Int32} {l6 : Int32} {z_thrown : Int32} {z_s : Nat → Int32} {z_kept : Nat → Int32} {z_isKept : Int32} {z_moveMany : Int32} {z_moves : Nat → Int32} {z_hands : Nat → Int32} {z_troubles : Int32} {z_troubleSorts : Nat → Int32} {z_troubleNumbers : Nat → Int32} {z_asked : Nat → Int32} {z_paint : Nat → Int32} {z_leasts : Nat → Int32} {z_isSeen : Nat → Int32} {z_classMany : Int32} {z_types : Nat → Int32} {z_typeCounts : Nat → Int32} {z_typeMany : Int32} {z_text : Nat → Int32} {z_signs : Int32} {z_at : Int32} {z_lacks : Int32} {z_clauses : Int32} {z_begun : Int32} {z_letters : Nat → Int32} {z_firsts : Nat → Int32} {z_seconds : Nat → Int32} {z_aside : Nat → Int32} {z_sorts : Nat → Int32} {z_sizes : Nat → Int32} {K : Int32 → (Nat → Int64) → Option (Int32 × (Nat → Int64))} {res : Int32 × (Nat → Int64)} (X : CX RX10 cX10_shift 9 (some .int) p s m args meth c) (E : EX G A s)
    (hK : ∀ (l7 : Int32) (z_items : (Nat → Int64)) (H : Heap) (locs : List Loc) (ls : Array Slot), IN A G (mw G h z_thrown z_s z_kept z_isKept z_moveMany z_moves z_hands z_troubles z_troubleSorts z_troubleNumbers z_asked z_paint z_leasts z_isSeen z_classMany z_types z_typeCounts z_typeMany z_text z_signs z_at z_lacks z_clauses z_begun z_letters z_firsts z_seconds z_aside z_sorts z_sizes z_items) s H locs → lv_has ls 9 [(0, .ref (h 0)), (1, .int l1), (2, .int l2), (3, .int l3), (4, .int l4), (5, .int l5), (6, .int l6), (7, .int l7)] → K l7 z_items = some res → W p l e rm_X10_shift s m args below meth c H locs 0 0 (MQ below (QX G A (mw G h z_thrown z_s z_kept z_isKept z_moveMany z_moves z_hands z_troubles z_troubleSorts z_troubleNumbers z_asked z_paint z_leasts z_isSeen z_classMany z_types z_typeCounts z_typeMany z_text z_signs z_at z_lacks z_clauses z_begun z_letters z_firsts z_seconds z_aside z_sorts z_sizes res.2) (some (.int res.1))) args s 0 0 A) (F0 m 183 ls [])) :
    ∀ {k : Nat} {l7 : Int32} {z_items : (Nat → Int64)} {H : Heap} {locs : List Loc} {ls : Array Slot}, IN A G (mw G h z_thrown z_s z_kept z_isKept z_moveMany z_moves z_hands z_troubles z_troubleSorts z_troubleNumbers z_asked z_paint z_leasts z_isSeen z_classMany z_types z_typeCounts z_typeMany z_text z_signs z_at z_lacks z_clauses z_begun z_letters z_firsts z_seconds z_aside z_sorts z_sizes z_items) s H locs → lv_has ls 9 [(0, .ref (h 0)), (1, .int l1), (2, .int l2), (3, .int l3), (4, .int l4), (5, .int l5), (6, .int l6), (7, .int l7)] → f_X10_shift_L122 l1 l2 l3 l4 l5 l6 K k l7 z_items = some res → W p l e rm_X10_shift s m args below meth c H locs 0 0 (MQ below (QX G A (mw G h z_thrown z_s z_kept z_isKept z_moveMany z_moves z_hands z_troubles z_troubleSorts z_troubleNumbers z_asked z_paint z_leasts z_isSeen z_classMany z_types z_typeCounts z_typeMany z_text z_signs z_at z_lacks z_clauses z_begun z_letters z_firsts z_seconds z_aside z_sorts z_sizes res.2) (some (.int res.1))) args s 0 0 A) (F0 m 122 ls []) := by
  obtain ⟨hx, hb, hml, hown, hts, hr, hlk⟩ := id X
  intro k
  induction k with
  | zero => intro l7 z_items H locs ls hI hl hf; exact nomatch (show none = some res from hf)
  | succ k ih =>
    intro l7 z_items H locs ls hI hl hf
    rw [f_X10_shift_L122] at hf
    refine lv_iload (pc := 122) hx hb dX10_shift_122 (lv_at hl 7 rfl) ?_
    refine lv_iload (pc := 124) hx hb dX10_shift_124 (lv_at hl 5 rfl) ?_
    refine lv_icmp_ge (pc := 126) (tgt := 183) hx hb dX10_shift_126 (by decide) (fun c1 => ?_) (fun c1 => ?_)
    · have hf := q_ip c1 hf
      exact hK _ _ _ _ _ hI (lv_sub hl [0, 1, 2, 3, 4, 5, 6, 7] rfl) hf
    · have hf := q_in c1 hf
      refine lv_iload (pc := 129) hx hb dX10_shift_129 (lv_at hl 6 rfl) ?_
      refine lv_if_eq (pc := 131) (tgt := 144) hx hb dX10_shift_131 (by decide) (fun c2 => ?_) (fun c2 => ?_)
      · have hf := q_ip c2 hf
        refine lv_iload (pc := 144) hx hb dX10_shift_144 (lv_at hl 7 rfl) ?_
        refine lv_istore (pc := 146) (lv' := [(8, .int l7), (0, .ref (h 0)), (1, .int l1), (2, .int l2), (3, .int l3), (4, .int l4), (5, .int l5), (6, .int l6), (7, .int l7)]) hx hb dX10_shift_146 hl (by decide) rfl (fun ls hl => ?_)
        refine lv_aload_n (pc := 148) hx hb dX10_shift_148 rfl (lv_at hl 1 rfl) ?_
        refine x_get (pc := 149) X E hI inX10 0 rfl rfl 30 (by decide) tw_4_19 rfl dX10_shift_149 ?_
        refine lv_bipush (pc := 152) (v := 60) hx hb dX10_shift_152 (by decide) ?_
        refine lv_iload_n (pc := 154) hx hb dX10_shift_154 rfl (lv_at hl 4 rfl) ?_
        refine lv_imul (pc := 155) hx hb dX10_shift_155 ?_
        refine lv_iload (pc := 156) hx hb dX10_shift_156 (lv_at hl 5 rfl) ?_
        refine lv_iadd (pc := 158) hx hb dX10_shift_158 ?_
        refine lv_iload (pc := 159) hx hb dX10_shift_159 (lv_at hl 0 rfl) ?_
        refine lv_iadd (pc := 161) hx hb dX10_shift_161 ?_
        refine lv_aload_n (pc := 162) hx hb dX10_shift_162 rfl (lv_at hl 1 rfl) ?_
        refine x_get (pc := 163) X E hI inX10 0 rfl rfl 30 (by decide) tw_4_19 rfl dX10_shift_163 ?_
        refine lv_bipush (pc := 166) (v := 60) hx hb dX10_shift_166 (by decide) ?_
        refine lv_iload_n (pc := 168) hx hb dX10_shift_168 rfl (lv_at hl 2 rfl) ?_
        refine lv_imul (pc := 169) hx hb dX10_shift_169 ?_
        refine lv_iload_n (pc := 170) hx hb dX10_shift_170 rfl (lv_at hl 3 rfl) ?_
        refine lv_iadd (pc := 171) hx hb dX10_shift_171 ?_
        refine lv_iload (pc := 172) hx hb dX10_shift_172 (lv_at hl 0 rfl) ?_
        refine lv_iadd (pc := 174) hx hb dX10_shift_174 ?_
        obtain ⟨t3, e3, hf⟩ := q_ob hf
        refine x_lald (pc := 175) X E hI 20 rfl e3 dX10_shift_175 ?_
        obtain ⟨t4, e4, hf⟩ := q_ob hf
        refine x_last (pc := 176) (w' := (mw G h z_thrown z_s z_kept z_isKept z_moveMany z_moves z_hands z_troubles z_troubleSorts z_troubleNumbers z_asked z_paint z_leasts z_isSeen z_classMany z_types z_typeCounts z_typeMany z_text z_signs z_at z_lacks z_clauses z_begun z_letters z_firsts z_seconds z_aside z_sorts z_sizes t4)) X E hI 20 rfl e4 rfl dX10_shift_176 (fun H locs hI => ?_)
        refine lv_iinc (pc := 177) (v := l7 + 1) (lv' := [(7, .int (l7 + 1)), (8, .int l7), (0, .ref (h 0)), (1, .int l1), (2, .int l2), (3, .int l3), (4, .int l4), (5, .int l5), (6, .int l6)]) hx hb dX10_shift_177 hl (k := 8) rfl rfl (by decide) rfl (fun ls hl => ?_)
        refine lv_goto (pc := 180) (tgt := 122) hx hb dX10_shift_180 (by decide) ?_
        exact ih hI (lv_sub hl [2, 3, 4, 5, 6, 7, 8, 0] rfl) hf
      · have hf := q_in c2 hf
        refine lv_iload (pc := 134) hx hb dX10_shift_134 (lv_at hl 5 rfl) ?_
        refine lv_iconst (pc := 136) (v := 1) hx hb dX10_shift_136 (by decide) ?_
        refine lv_isub (pc := 137) hx hb dX10_shift_137 ?_
        refine lv_iload (pc := 138) hx hb dX10_shift_138 (lv_at hl 7 rfl) ?_
        refine lv_isub (pc := 140) hx hb dX10_shift_140 ?_
        refine lv_goto (pc := 141) (tgt := 146) hx hb dX10_shift_141 (by decide) ?_
        refine lv_istore (pc := 146) (lv' := [(8, .int ((l5 - 1) - l7)), (0, .ref (h 0)), (1, .int l1), (2, .int l2), (3, .int l3), (4, .int l4), (5, .int l5), (6, .int l6), (7, .int l7)]) hx hb dX10_shift_146 hl (by decide) rfl (fun ls hl => ?_)
        refine lv_aload_n (pc := 148) hx hb dX10_shift_148 rfl (lv_at hl 1 rfl) ?_
        refine x_get (pc := 149) X E hI inX10 0 rfl rfl 30 (by decide) tw_4_19 rfl dX10_shift_149 ?_
        refine lv_bipush (pc := 152) (v := 60) hx hb dX10_shift_152 (by decide) ?_
        refine lv_iload_n (pc := 154) hx hb dX10_shift_154 rfl (lv_at hl 4 rfl) ?_
        refine lv_imul (pc := 155) hx hb dX10_shift_155 ?_
        refine lv_iload (pc := 156) hx hb dX10_shift_156 (lv_at hl 5 rfl) ?_
        refine lv_iadd (pc := 158) hx hb dX10_shift_158 ?_
        refine lv_iload (pc := 159) hx hb dX10_shift_159 (lv_at hl 0 rfl) ?_
        refine lv_iadd (pc := 161) hx hb dX10_shift_161 ?_
        refine lv_aload_n (pc := 162) hx hb dX10_shift_162 rfl (lv_at hl 1 rfl) ?_
        refine x_get (pc := 163) X E hI inX10 0 rfl rfl 30 (by decide) tw_4_19 rfl dX10_shift_163 ?_
        refine lv_bipush (pc := 166) (v := 60) hx hb dX10_shift_166 (by decide) ?_
        refine lv_iload_n (pc := 168) hx hb dX10_shift_168 rfl (lv_at hl 2 rfl) ?_
        refine lv_imul (pc := 169) hx hb dX10_shift_169 ?_
        refine lv_iload_n (pc := 170) hx hb dX10_shift_170 rfl (lv_at hl 3 rfl) ?_
        refine lv_iadd (pc := 171) hx hb dX10_shift_171 ?_
        refine lv_iload (pc := 172) hx hb dX10_shift_172 (lv_at hl 0 rfl) ?_
        refine lv_iadd (pc := 174) hx hb dX10_shift_174 ?_
        obtain ⟨t5, e5, hf⟩ := q_ob hf
        refine x_lald (pc := 175) X E hI 20 rfl e5 dX10_shift_175 ?_
        obtain ⟨t6, e6, hf⟩ := q_ob hf
        refine x_last (pc := 176) (w' := (mw G h z_thrown z_s z_kept z_isKept z_moveMany z_moves z_hands z_troubles z_troubleSorts z_troubleNumbers z_asked z_paint z_leasts z_isSeen z_classMany z_types z_typeCounts z_typeMany z_text z_signs z_at z_lacks z_clauses z_begun z_letters z_firsts z_seconds z_aside z_sorts z_sizes t6)) X E hI 20 rfl e6 rfl dX10_shift_176 (fun H locs hI => ?_)
        refine lv_iinc (pc := 177) (v := l7 + 1) (lv' := [(7, .int (l7 + 1)), (8, .int ((l5 - 1) - l7)), (0, .ref (h 0)), (1, .int l1), (2, .int l2), (3, .int l3), (4, .int l4), (5, .int l5), (6, .int l6)]) hx hb dX10_shift_177 hl (k := 8) rfl rfl (by decide) rfl (fun ls hl => ?_)
        refine lv_goto (pc := 180) (tgt := 122) hx hb dX10_shift_180 (by decide) ?_
        exact ih hI (lv_sub hl [2, 3, 4, 5, 6, 7, 8, 0] rfl) hf

set_option maxHeartbeats 4000000 in
set_option maxRecDepth 100000 in
theorem c_X10_shift (l : Launch) (G : GX) (h : Nat → Nat) {l1 : Int32} {l2 : Int32} {l3 : Int32} {l4 : Int32} {l5 : Int32} {z_sorts : Nat → Int32} {z_sizes : Nat → Int32} {z_items : Nat → Int64} {z_thrown : Int32} {z_s : Nat → Int32} {z_kept : Nat → Int32} {z_isKept : Int32} {z_moveMany : Int32} {z_moves : Nat → Int32} {z_hands : Nat → Int32} {z_troubles : Int32} {z_troubleSorts : Nat → Int32} {z_troubleNumbers : Nat → Int32} {z_asked : Nat → Int32} {z_paint : Nat → Int32} {z_leasts : Nat → Int32} {z_isSeen : Nat → Int32} {z_classMany : Int32} {z_types : Nat → Int32} {z_typeCounts : Nat → Int32} {z_typeMany : Int32} {z_text : Nat → Int32} {z_signs : Int32} {z_at : Int32} {z_lacks : Int32} {z_clauses : Int32} {z_begun : Int32} {z_letters : Nat → Int32} {z_firsts : Nat → Int32} {z_seconds : Nat → Int32} {z_aside : Nat → Int32} {res : Int32 × (Nat → Int64)} (hf : f_X10_shift l1 l2 l3 l4 l5 z_sorts z_sizes z_items = some res) : MX l yX10_shift cX10_shift 9 (some .int) rm_X10_shift G (mw G h z_thrown z_s z_kept z_isKept z_moveMany z_moves z_hands z_troubles z_troubleSorts z_troubleNumbers z_asked z_paint z_leasts z_isSeen z_classMany z_types z_typeCounts z_typeMany z_text z_signs z_at z_lacks z_clauses z_begun z_letters z_firsts z_seconds z_aside z_sorts z_sizes z_items) [.ref (h 0), .int l1, .int l2, .int l3, .int l4, .int l5] (mw G h z_thrown z_s z_kept z_isKept z_moveMany z_moves z_hands z_troubles z_troubleSorts z_troubleNumbers z_asked z_paint z_leasts z_isSeen z_classMany z_types z_typeCounts z_typeMany z_text z_signs z_at z_lacks z_clauses z_begun z_letters z_firsts z_seconds z_aside z_sorts z_sizes res.2) (some (.int res.1)) 0 0 := by
  refine MX.of (plainFor_of_name (by decide)) (Nat.le_of_ble_eq_true rfl) ?_
  intro p e s m below meth c A X E hI ls hl
  obtain ⟨hx, hb, hml, hown, hts, hr, hlk⟩ := id X
  have hl : lv_has ls 9 [(0, .ref (h 0)), (1, .int l1), (2, .int l2), (3, .int l3), (4, .int l4), (5, .int l5)] := hl
  unfold f_X10_shift at hf
  refine lv_iload_n (pc := 0) hx hb dX10_shift_0 rfl (lv_at hl 1 rfl) ?_
  obtain ⟨t1, e1, hf⟩ := q_ob hf
  refine x_cSn (pc := 1) (st1 := [.int t1]) X E hI (c_X10_isTape l G e1) ks_X10_329 hd_X10_isTape ⟨rfl, rfl⟩ (by decide) rfl hl.1 rfl (Nat.le_of_ble_eq_true rfl) dX10_shift_1 ⟨Nat.le_of_ble_eq_true rfl, Nat.le_of_ble_eq_true rfl⟩ rfl (fun H locs hI => ?_)
  refine lv_if_eq (pc := 4) (tgt := 14) hx hb dX10_shift_4 (by decide) (fun c2 => ?_) (fun c2 => ?_)
  · have hf := q_ip c2 hf
    refine lv_iconst (pc := 14) (v := (-1)) hx hb dX10_shift_14 (by decide) ?_
    obtain rfl := Option.some.inj hf
    exact x_iret X hI dX10_shift_15
  · have hf := q_in c2 hf
    refine lv_iload_n (pc := 7) hx hb dX10_shift_7 rfl (lv_at hl 3 rfl) ?_
    obtain ⟨t3, e3, hf⟩ := q_ob hf
    refine x_cSn (pc := 8) (st1 := [.int t3]) X E hI (c_X10_isTape l G e3) ks_X10_329 hd_X10_isTape ⟨rfl, rfl⟩ (by decide) rfl hl.1 rfl (Nat.le_of_ble_eq_true rfl) dX10_shift_8 ⟨Nat.le_of_ble_eq_true rfl, Nat.le_of_ble_eq_true rfl⟩ rfl (fun H locs hI => ?_)
    refine lv_if_ne (pc := 11) (tgt := 16) hx hb dX10_shift_11 (by decide) (fun c4 => ?_) (fun c4 => ?_)
    · have hf := q_in c4 hf
      refine lv_aload_n (pc := 16) hx hb dX10_shift_16 rfl (lv_at hl 0 rfl) ?_
      refine x_get (pc := 17) X E hI inX10 0 rfl rfl 28 (by decide) tw_4_17 rfl dX10_shift_17 ?_
      refine lv_iload_n (pc := 20) hx hb dX10_shift_20 rfl (lv_at hl 1 rfl) ?_
      obtain ⟨t5, e5, hf⟩ := q_ob hf
      refine x_iald (pc := 21) X E hI 18 rfl e5 dX10_shift_21 ?_
      refine lv_iconst (pc := 22) (v := (-1)) hx hb dX10_shift_22 (by decide) ?_
      refine lv_icmp_eq (pc := 23) (tgt := 36) hx hb dX10_shift_23 (by decide) (fun c6 => ?_) (fun c6 => ?_)
      · have hf := q_ip c6 hf
        refine lv_bipush (pc := 36) (v := (-11)) hx hb dX10_shift_36 (by decide) ?_
        obtain rfl := Option.some.inj hf
        exact x_iret X hI dX10_shift_38
      · have hf := q_in c6 hf
        refine lv_aload_n (pc := 26) hx hb dX10_shift_26 rfl (lv_at hl 0 rfl) ?_
        refine x_get (pc := 27) X E hI inX10 0 rfl rfl 28 (by decide) tw_4_17 rfl dX10_shift_27 ?_
        refine lv_iload_n (pc := 30) hx hb dX10_shift_30 rfl (lv_at hl 3 rfl) ?_
        obtain ⟨t7, e7, hf⟩ := q_ob hf
        refine x_iald (pc := 31) X E hI 18 rfl e7 dX10_shift_31 ?_
        refine lv_iconst (pc := 32) (v := (-1)) hx hb dX10_shift_32 (by decide) ?_
        refine lv_icmp_ne (pc := 33) (tgt := 39) hx hb dX10_shift_33 (by decide) (fun c8 => ?_) (fun c8 => ?_)
        · have hf := q_in c8 hf
          refine lv_aload_n (pc := 39) hx hb dX10_shift_39 rfl (lv_at hl 0 rfl) ?_
          refine x_get (pc := 40) X E hI inX10 0 rfl rfl 28 (by decide) tw_4_17 rfl dX10_shift_40 ?_
          refine lv_iload_n (pc := 43) hx hb dX10_shift_43 rfl (lv_at hl 1 rfl) ?_
          obtain ⟨t9, e9, hf⟩ := q_ob hf
          refine x_iald (pc := 44) X E hI 18 rfl e9 dX10_shift_44 ?_
          refine lv_aload_n (pc := 45) hx hb dX10_shift_45 rfl (lv_at hl 0 rfl) ?_
          refine x_get (pc := 46) X E hI inX10 0 rfl rfl 28 (by decide) tw_4_17 rfl dX10_shift_46 ?_
          refine lv_iload_n (pc := 49) hx hb dX10_shift_49 rfl (lv_at hl 3 rfl) ?_
          obtain ⟨t10, e10, hf⟩ := q_ob hf
          refine x_iald (pc := 50) X E hI 18 rfl e10 dX10_shift_50 ?_
          refine lv_icmp_eq (pc := 51) (tgt := 57) hx hb dX10_shift_51 (by decide) (fun c11 => ?_) (fun c11 => ?_)
          · have hf := q_ip c11 hf
            refine lv_iload (pc := 57) hx hb dX10_shift_57 (lv_at hl 5 rfl) ?_
            refine lv_if_lt (pc := 59) (tgt := 98) hx hb dX10_shift_59 (by decide) (fun c12 => ?_) (fun c12 => ?_)
            · have hf := q_ip c12 hf
              refine lv_bipush (pc := 98) (v := (-13)) hx hb dX10_shift_98 (by decide) ?_
              obtain rfl := Option.some.inj hf
              exact x_iret X hI dX10_shift_100
            · have hf := q_in c12 hf
              refine lv_iload_n (pc := 62) hx hb dX10_shift_62 rfl (lv_at hl 2 rfl) ?_
              refine lv_if_lt (pc := 63) (tgt := 98) hx hb dX10_shift_63 (by decide) (fun c13 => ?_) (fun c13 => ?_)
              · have hf := q_ip c13 hf
                refine lv_bipush (pc := 98) (v := (-13)) hx hb dX10_shift_98 (by decide) ?_
                obtain rfl := Option.some.inj hf
                exact x_iret X hI dX10_shift_100
              · have hf := q_in c13 hf
                refine lv_iload (pc := 66) hx hb dX10_shift_66 (lv_at hl 4 rfl) ?_
                refine lv_if_lt (pc := 68) (tgt := 98) hx hb dX10_shift_68 (by decide) (fun c14 => ?_) (fun c14 => ?_)
                · have hf := q_ip c14 hf
                  refine lv_bipush (pc := 98) (v := (-13)) hx hb dX10_shift_98 (by decide) ?_
                  obtain rfl := Option.some.inj hf
                  exact x_iret X hI dX10_shift_100
                · have hf := q_in c14 hf
                  refine lv_iload_n (pc := 71) hx hb dX10_shift_71 rfl (lv_at hl 2 rfl) ?_
                  refine lv_aload_n (pc := 72) hx hb dX10_shift_72 rfl (lv_at hl 0 rfl) ?_
                  refine x_get (pc := 73) X E hI inX10 0 rfl rfl 29 (by decide) tw_4_18 rfl dX10_shift_73 ?_
                  refine lv_iload_n (pc := 76) hx hb dX10_shift_76 rfl (lv_at hl 1 rfl) ?_
                  obtain ⟨t15, e15, hf⟩ := q_ob hf
                  refine x_iald (pc := 77) X E hI 19 rfl e15 dX10_shift_77 ?_
                  refine lv_iload (pc := 78) hx hb dX10_shift_78 (lv_at hl 5 rfl) ?_
                  refine lv_isub (pc := 80) hx hb dX10_shift_80 ?_
                  refine lv_icmp_gt (pc := 81) (tgt := 98) hx hb dX10_shift_81 (by decide) (fun c16 => ?_) (fun c16 => ?_)
                  · have hf := q_ip c16 hf
                    refine lv_bipush (pc := 98) (v := (-13)) hx hb dX10_shift_98 (by decide) ?_
                    obtain rfl := Option.some.inj hf
                    exact x_iret X hI dX10_shift_100
                  · have hf := q_in c16 hf
                    refine lv_iload (pc := 84) hx hb dX10_shift_84 (lv_at hl 4 rfl) ?_
                    refine lv_aload_n (pc := 86) hx hb dX10_shift_86 rfl (lv_at hl 0 rfl) ?_
                    refine x_get (pc := 87) X E hI inX10 0 rfl rfl 29 (by decide) tw_4_18 rfl dX10_shift_87 ?_
                    refine lv_iload_n (pc := 90) hx hb dX10_shift_90 rfl (lv_at hl 3 rfl) ?_
                    obtain ⟨t17, e17, hf⟩ := q_ob hf
                    refine x_iald (pc := 91) X E hI 19 rfl e17 dX10_shift_91 ?_
                    refine lv_iload (pc := 92) hx hb dX10_shift_92 (lv_at hl 5 rfl) ?_
                    refine lv_isub (pc := 94) hx hb dX10_shift_94 ?_
                    refine lv_icmp_le (pc := 95) (tgt := 101) hx hb dX10_shift_95 (by decide) (fun c18 => ?_) (fun c18 => ?_)
                    · have hf := q_ip c18 hf
                      refine lv_iload_n (pc := 101) hx hb dX10_shift_101 rfl (lv_at hl 1 rfl) ?_
                      refine lv_iload_n (pc := 102) hx hb dX10_shift_102 rfl (lv_at hl 3 rfl) ?_
                      refine lv_icmp_ne (pc := 103) (tgt := 116) hx hb dX10_shift_103 (by decide) (fun c19 => ?_) (fun c19 => ?_)
                      · have hf := q_in c19 hf
                        refine lv_iconst (pc := 116) (v := 0) hx hb dX10_shift_116 (by decide) ?_
                        refine lv_istore (pc := 117) (lv' := [(6, .int 0), (0, .ref (h 0)), (1, .int l1), (2, .int l2), (3, .int l3), (4, .int l4), (5, .int l5)]) hx hb dX10_shift_117 hl (by decide) rfl (fun ls hl => ?_)
                        refine lv_iconst (pc := 119) (v := 0) hx hb dX10_shift_119 (by decide) ?_
                        refine lv_istore (pc := 120) (lv' := [(7, .int 0), (6, .int 0), (0, .ref (h 0)), (1, .int l1), (2, .int l2), (3, .int l3), (4, .int l4), (5, .int l5)]) hx hb dX10_shift_120 hl (by decide) rfl (fun ls hl => ?_)
                        refine k_X10_shift_L122 X E (fun l7_20 z_items_20 H locs ls hI hl hf => ?_) hI (lv_sub hl [2, 3, 4, 5, 6, 7, 1, 0] rfl) hf
                        refine lv_iload (pc := 183) hx hb dX10_shift_183 (lv_at hl 5 rfl) ?_
                        obtain rfl := Option.some.inj hf
                        exact x_iret X hI dX10_shift_185
                      · have hf := q_ip c19 hf
                        refine lv_iload_n (pc := 106) hx hb dX10_shift_106 rfl (lv_at hl 2 rfl) ?_
                        refine lv_iload (pc := 107) hx hb dX10_shift_107 (lv_at hl 4 rfl) ?_
                        refine lv_icmp_ge (pc := 109) (tgt := 116) hx hb dX10_shift_109 (by decide) (fun c21 => ?_) (fun c21 => ?_)
                        · have hf := q_ip c21 hf
                          refine lv_iconst (pc := 116) (v := 0) hx hb dX10_shift_116 (by decide) ?_
                          refine lv_istore (pc := 117) (lv' := [(6, .int 0), (0, .ref (h 0)), (1, .int l1), (2, .int l2), (3, .int l3), (4, .int l4), (5, .int l5)]) hx hb dX10_shift_117 hl (by decide) rfl (fun ls hl => ?_)
                          refine lv_iconst (pc := 119) (v := 0) hx hb dX10_shift_119 (by decide) ?_
                          refine lv_istore (pc := 120) (lv' := [(7, .int 0), (6, .int 0), (0, .ref (h 0)), (1, .int l1), (2, .int l2), (3, .int l3), (4, .int l4), (5, .int l5)]) hx hb dX10_shift_120 hl (by decide) rfl (fun ls hl => ?_)
                          refine k_X10_shift_L122 X E (fun l7_22 z_items_22 H locs ls hI hl hf => ?_) hI (lv_sub hl [2, 3, 4, 5, 6, 7, 1, 0] rfl) hf
                          refine lv_iload (pc := 183) hx hb dX10_shift_183 (lv_at hl 5 rfl) ?_
                          obtain rfl := Option.some.inj hf
                          exact x_iret X hI dX10_shift_185
                        · have hf := q_in c21 hf
                          refine lv_iconst (pc := 112) (v := 1) hx hb dX10_shift_112 (by decide) ?_
                          refine lv_goto (pc := 113) (tgt := 117) hx hb dX10_shift_113 (by decide) ?_
                          refine lv_istore (pc := 117) (lv' := [(6, .int 1), (0, .ref (h 0)), (1, .int l1), (2, .int l2), (3, .int l3), (4, .int l4), (5, .int l5)]) hx hb dX10_shift_117 hl (by decide) rfl (fun ls hl => ?_)
                          refine lv_iconst (pc := 119) (v := 0) hx hb dX10_shift_119 (by decide) ?_
                          refine lv_istore (pc := 120) (lv' := [(7, .int 0), (6, .int 1), (0, .ref (h 0)), (1, .int l1), (2, .int l2), (3, .int l3), (4, .int l4), (5, .int l5)]) hx hb dX10_shift_120 hl (by decide) rfl (fun ls hl => ?_)
                          refine k_X10_shift_L122 X E (fun l7_23 z_items_23 H locs ls hI hl hf => ?_) hI (lv_sub hl [2, 3, 4, 5, 6, 7, 1, 0] rfl) hf
                          refine lv_iload (pc := 183) hx hb dX10_shift_183 (lv_at hl 5 rfl) ?_
                          obtain rfl := Option.some.inj hf
                          exact x_iret X hI dX10_shift_185
                    · have hf := q_in c18 hf
                      refine lv_bipush (pc := 98) (v := (-13)) hx hb dX10_shift_98 (by decide) ?_
                      obtain rfl := Option.some.inj hf
                      exact x_iret X hI dX10_shift_100
          · have hf := q_in c11 hf
            refine lv_bipush (pc := 54) (v := (-12)) hx hb dX10_shift_54 (by decide) ?_
            obtain rfl := Option.some.inj hf
            exact x_iret X hI dX10_shift_56
        · have hf := q_ip c8 hf
          refine lv_bipush (pc := 36) (v := (-11)) hx hb dX10_shift_36 (by decide) ?_
          obtain rfl := Option.some.inj hf
          exact x_iret X hI dX10_shift_38
    · have hf := q_ip c4 hf
      refine lv_iconst (pc := 14) (v := (-1)) hx hb dX10_shift_14 (by decide) ?_
      obtain rfl := Option.some.inj hf
      exact x_iret X hI dX10_shift_15

