abbrev rm_X10_indexOf : Room := { frames := 0, cells := 0, slots := 0, locals := 0 }
set_option maxHeartbeats 4000000 in
set_option maxRecDepth 100000 in
theorem k_X10_indexOf_L10 {p : Program} {l : Launch} {e : Env} {s : State} {m : MethodId} {args : Array Value} {below : List Frame} {meth : Method} {c : Code} {A : Nat → Prop} {G : GX} {h : Nat → Nat} {z_thrown : Int32} {z_s : Nat → Int32} {z_kept : Nat → Int32} {z_isKept : Int32} {z_moveMany : Int32} {z_moves : Nat → Int32} {z_hands : Nat → Int32} {z_troubles : Int32} {z_troubleSorts : Nat → Int32} {z_troubleNumbers : Nat → Int32} {z_asked : Nat → Int32} {z_paint : Nat → Int32} {z_leasts : Nat → Int32} {z_isSeen : Nat → Int32} {z_classMany : Int32} {z_types : Nat → Int32} {z_typeCounts : Nat → Int32} {z_typeMany : Int32} {z_text : Nat → Int32} {z_signs : Int32} {z_at : Int32} {z_lacks : Int32} {z_clauses : Int32} {z_begun : Int32} {z_letters : Nat → Int32} {z_firsts : Nat → Int32} {z_seconds : Nat → Int32} {z_aside : Nat → Int32} {z_sorts : Nat → Int32} {z_sizes : Nat → Int32} {z_items : Nat → Int64} {K : Int32 → Int32 → Int32 → Int32 → Option (Int32)} {res : Int32} (X : CX RX10 cX10_indexOf 7 (some .int) p s m args meth c) (E : EX G A s)
    (hK : ∀ (l2 : Int32) (l3 : Int32) (l4 : Int32) (l5 : Int32) (H : Heap) (locs : List Loc) (ls : Array Slot), IN A G (mw G h z_thrown z_s z_kept z_isKept z_moveMany z_moves z_hands z_troubles z_troubleSorts z_troubleNumbers z_asked z_paint z_leasts z_isSeen z_classMany z_types z_typeCounts z_typeMany z_text z_signs z_at z_lacks z_clauses z_begun z_letters z_firsts z_seconds z_aside z_sorts z_sizes z_items) s H locs → lv_has ls 7 [(0, .ref (h 0)), (2, .int l2), (3, .int l3), (4, .int l4), (5, .int l5)] → K l2 l3 l4 l5 = some res → W p l e rm_X10_indexOf s m args below meth c H locs 0 0 (MQ below (QX G A (mw G h z_thrown z_s z_kept z_isKept z_moveMany z_moves z_hands z_troubles z_troubleSorts z_troubleNumbers z_asked z_paint z_leasts z_isSeen z_classMany z_types z_typeCounts z_typeMany z_text z_signs z_at z_lacks z_clauses z_begun z_letters z_firsts z_seconds z_aside z_sorts z_sizes z_items) (some (.int res))) args s 0 0 A) (F0 m 74 ls [])) :
    ∀ {k : Nat} {l2 : Int32} {l3 : Int32} {l4 : Int32} {l5 : Int32} {H : Heap} {locs : List Loc} {ls : Array Slot}, IN A G (mw G h z_thrown z_s z_kept z_isKept z_moveMany z_moves z_hands z_troubles z_troubleSorts z_troubleNumbers z_asked z_paint z_leasts z_isSeen z_classMany z_types z_typeCounts z_typeMany z_text z_signs z_at z_lacks z_clauses z_begun z_letters z_firsts z_seconds z_aside z_sorts z_sizes z_items) s H locs → lv_has ls 7 [(0, .ref (h 0)), (2, .int l2), (3, .int l3), (4, .int l4), (5, .int l5)] → f_X10_indexOf_L10 z_s K k l2 l3 l4 l5 = some res → W p l e rm_X10_indexOf s m args below meth c H locs 0 0 (MQ below (QX G A (mw G h z_thrown z_s z_kept z_isKept z_moveMany z_moves z_hands z_troubles z_troubleSorts z_troubleNumbers z_asked z_paint z_leasts z_isSeen z_classMany z_types z_typeCounts z_typeMany z_text z_signs z_at z_lacks z_clauses z_begun z_letters z_firsts z_seconds z_aside z_sorts z_sizes z_items) (some (.int res))) args s 0 0 A) (F0 m 10 ls []) := by
  obtain ⟨hx, hb, hml, hown, hts, hr, hlk⟩ := id X
  intro k
  induction k with
  | zero => intro l2 l3 l4 l5 H locs ls hI hl hf; exact nomatch (show none = some res from hf)
  | succ k ih =>
    intro l2 l3 l4 l5 H locs ls hI hl hf
    rw [f_X10_indexOf_L10] at hf
    refine lv_iload (pc := 10) hx hb dX10_indexOf_10 (lv_at hl 4 rfl) ?_
    refine lv_aload_n (pc := 12) hx hb dX10_indexOf_12 rfl (lv_at hl 0 rfl) ?_
    refine x_get (pc := 13) X E hI inX10 0 rfl rfl 1 (by decide) tw_3_230 rfl dX10_indexOf_13 ?_
    refine lv_iconst (pc := 16) (v := 0) hx hb dX10_indexOf_16 (by decide) ?_
    obtain ⟨t1, e1, hf⟩ := q_ob hf
    refine x_iald (pc := 17) X E hI 1 rfl e1 dX10_indexOf_17 ?_
    refine lv_icmp_ge (pc := 18) (tgt := 74) hx hb dX10_indexOf_18 (by decide) (fun c2 => ?_) (fun c2 => ?_)
    · have hf := q_ip c2 hf
      exact hK _ _ _ _ _ _ _ hI (lv_sub hl [0, 1, 2, 3, 4] rfl) hf
    · have hf := q_in c2 hf
      refine lv_iload_n (pc := 21) hx hb dX10_indexOf_21 rfl (lv_at hl 1 rfl) ?_
      refine lv_bipush (pc := 22) (v := 10) hx hb dX10_indexOf_22 (by decide) ?_
      obtain ⟨t3, e3, hf⟩ := q_ob hf
      refine x_irem (pc := 24) X e3 dX10_indexOf_24 ?_
      refine lv_istore (pc := 25) (lv' := [(6, .int t3), (0, .ref (h 0)), (2, .int l2), (3, .int l3), (4, .int l4), (5, .int l5)]) hx hb dX10_indexOf_25 hl (by decide) rfl (fun ls hl => ?_)
      refine lv_iload_n (pc := 27) hx hb dX10_indexOf_27 rfl (lv_at hl 2 rfl) ?_
      refine lv_if_lt (pc := 28) (tgt := 42) hx hb dX10_indexOf_28 (by decide) (fun c4 => ?_) (fun c4 => ?_)
      · have hf := q_ip c4 hf
        refine lv_iconst (pc := 42) (v := (-1)) hx hb dX10_indexOf_42 (by decide) ?_
        obtain rfl := Option.some.inj hf
        exact x_iret X hI dX10_indexOf_43
      · have hf := q_in c4 hf
        refine lv_iload (pc := 31) hx hb dX10_indexOf_31 (lv_at hl 0 rfl) ?_
        refine lv_aload_n (pc := 33) hx hb dX10_indexOf_33 rfl (lv_at hl 1 rfl) ?_
        refine x_get (pc := 34) X E hI inX10 0 rfl rfl 1 (by decide) tw_3_230 rfl dX10_indexOf_34 ?_
        refine lv_iconst (pc := 37) (v := 1) hx hb dX10_indexOf_37 (by decide) ?_
        obtain ⟨t5, e5, hf⟩ := q_ob hf
        refine x_iald (pc := 38) X E hI 1 rfl e5 dX10_indexOf_38 ?_
        refine lv_icmp_lt (pc := 39) (tgt := 44) hx hb dX10_indexOf_39 (by decide) (fun c6 => ?_) (fun c6 => ?_)
        · have hf := q_ip c6 hf
          refine lv_iload_n (pc := 44) hx hb dX10_indexOf_44 rfl (lv_at hl 3 rfl) ?_
          refine lv_iload (pc := 45) hx hb dX10_indexOf_45 (lv_at hl 4 rfl) ?_
          refine lv_iload (pc := 47) hx hb dX10_indexOf_47 (lv_at hl 0 rfl) ?_
          refine lv_imul (pc := 49) hx hb dX10_indexOf_49 ?_
          refine lv_iadd (pc := 50) hx hb dX10_indexOf_50 ?_
          refine lv_istore_n (pc := 51) (lv' := [(3, .int (l3 + (l4 * t3))), (6, .int t3), (0, .ref (h 0)), (2, .int l2), (4, .int l4), (5, .int l5)]) hx hb dX10_indexOf_51 rfl hl (by decide) rfl (fun ls hl => ?_)
          refine lv_iload (pc := 52) hx hb dX10_indexOf_52 (lv_at hl 4 rfl) ?_
          refine lv_aload_n (pc := 54) hx hb dX10_indexOf_54 rfl (lv_at hl 2 rfl) ?_
          refine x_get (pc := 55) X E hI inX10 0 rfl rfl 1 (by decide) tw_3_230 rfl dX10_indexOf_55 ?_
          refine lv_iconst (pc := 58) (v := 1) hx hb dX10_indexOf_58 (by decide) ?_
          obtain ⟨t7, e7, hf⟩ := q_ob hf
          refine x_iald (pc := 59) X E hI 1 rfl e7 dX10_indexOf_59 ?_
          refine lv_imul (pc := 60) hx hb dX10_indexOf_60 ?_
          refine lv_istore (pc := 61) (lv' := [(4, .int (l4 * t7)), (3, .int (l3 + (l4 * t3))), (6, .int t3), (0, .ref (h 0)), (2, .int l2), (5, .int l5)]) hx hb dX10_indexOf_61 hl (by decide) rfl (fun ls hl => ?_)
          refine lv_iload_n (pc := 63) hx hb dX10_indexOf_63 rfl (lv_at hl 4 rfl) ?_
          refine lv_bipush (pc := 64) (v := 10) hx hb dX10_indexOf_64 (by decide) ?_
          obtain ⟨t8, e8, hf⟩ := q_ob hf
          refine x_idiv (pc := 66) X e8 dX10_indexOf_66 ?_
          refine lv_istore_n (pc := 67) (lv' := [(2, .int t8), (4, .int (l4 * t7)), (3, .int (l3 + (l4 * t3))), (6, .int t3), (0, .ref (h 0)), (5, .int l5)]) hx hb dX10_indexOf_67 rfl hl (by decide) rfl (fun ls hl => ?_)
          refine lv_iinc (pc := 68) (v := l5 + 1) (lv' := [(5, .int (l5 + 1)), (2, .int t8), (4, .int (l4 * t7)), (3, .int (l3 + (l4 * t3))), (6, .int t3), (0, .ref (h 0))]) hx hb dX10_indexOf_68 hl (k := 5) rfl rfl (by decide) rfl (fun ls hl => ?_)
          refine lv_goto (pc := 71) (tgt := 10) hx hb dX10_indexOf_71 (by decide) ?_
          exact ih hI (lv_sub hl [5, 1, 3, 2, 0] rfl) hf
        · have hf := q_in c6 hf
          refine lv_iconst (pc := 42) (v := (-1)) hx hb dX10_indexOf_42 (by decide) ?_
          obtain rfl := Option.some.inj hf
          exact x_iret X hI dX10_indexOf_43

set_option maxHeartbeats 4000000 in
set_option maxRecDepth 100000 in
theorem c_X10_indexOf (l : Launch) (G : GX) (h : Nat → Nat) {l1 : Int32} {z_s : Nat → Int32} {z_thrown : Int32} {z_kept : Nat → Int32} {z_isKept : Int32} {z_moveMany : Int32} {z_moves : Nat → Int32} {z_hands : Nat → Int32} {z_troubles : Int32} {z_troubleSorts : Nat → Int32} {z_troubleNumbers : Nat → Int32} {z_asked : Nat → Int32} {z_paint : Nat → Int32} {z_leasts : Nat → Int32} {z_isSeen : Nat → Int32} {z_classMany : Int32} {z_types : Nat → Int32} {z_typeCounts : Nat → Int32} {z_typeMany : Int32} {z_text : Nat → Int32} {z_signs : Int32} {z_at : Int32} {z_lacks : Int32} {z_clauses : Int32} {z_begun : Int32} {z_letters : Nat → Int32} {z_firsts : Nat → Int32} {z_seconds : Nat → Int32} {z_aside : Nat → Int32} {z_sorts : Nat → Int32} {z_sizes : Nat → Int32} {z_items : Nat → Int64} {res : Int32} (hf : f_X10_indexOf l1 z_s = some res) : MX l yX10_indexOf cX10_indexOf 7 (some .int) rm_X10_indexOf G (mw G h z_thrown z_s z_kept z_isKept z_moveMany z_moves z_hands z_troubles z_troubleSorts z_troubleNumbers z_asked z_paint z_leasts z_isSeen z_classMany z_types z_typeCounts z_typeMany z_text z_signs z_at z_lacks z_clauses z_begun z_letters z_firsts z_seconds z_aside z_sorts z_sizes z_items) [.ref (h 0), .int l1] (mw G h z_thrown z_s z_kept z_isKept z_moveMany z_moves z_hands z_troubles z_troubleSorts z_troubleNumbers z_asked z_paint z_leasts z_isSeen z_classMany z_types z_typeCounts z_typeMany z_text z_signs z_at z_lacks z_clauses z_begun z_letters z_firsts z_seconds z_aside z_sorts z_sizes z_items) (some (.int res)) 0 0 := by
  refine MX.of (plainFor_of_name (by decide)) (Nat.le_of_ble_eq_true rfl) ?_
  intro p e s m below meth c A X E hI ls hl
  obtain ⟨hx, hb, hml, hown, hts, hr, hlk⟩ := id X
  have hl : lv_has ls 7 [(0, .ref (h 0)), (1, .int l1)] := hl
  unfold f_X10_indexOf at hf
  refine lv_iload_n (pc := 0) hx hb dX10_indexOf_0 rfl (lv_at hl 1 rfl) ?_
  refine lv_istore_n (pc := 1) (lv' := [(2, .int l1), (0, .ref (h 0)), (1, .int l1)]) hx hb dX10_indexOf_1 rfl hl (by decide) rfl (fun ls hl => ?_)
  refine lv_iconst (pc := 2) (v := 0) hx hb dX10_indexOf_2 (by decide) ?_
  refine lv_istore_n (pc := 3) (lv' := [(3, .int 0), (2, .int l1), (0, .ref (h 0)), (1, .int l1)]) hx hb dX10_indexOf_3 rfl hl (by decide) rfl (fun ls hl => ?_)
  refine lv_iconst (pc := 4) (v := 1) hx hb dX10_indexOf_4 (by decide) ?_
  refine lv_istore (pc := 5) (lv' := [(4, .int 1), (3, .int 0), (2, .int l1), (0, .ref (h 0)), (1, .int l1)]) hx hb dX10_indexOf_5 hl (by decide) rfl (fun ls hl => ?_)
  refine lv_iconst (pc := 7) (v := 0) hx hb dX10_indexOf_7 (by decide) ?_
  refine lv_istore (pc := 8) (lv' := [(5, .int 0), (4, .int 1), (3, .int 0), (2, .int l1), (0, .ref (h 0)), (1, .int l1)]) hx hb dX10_indexOf_8 hl (by decide) rfl (fun ls hl => ?_)
  refine k_X10_indexOf_L10 X E (fun l2_1 l3_1 l4_1 l5_1 H locs ls hI hl hf => ?_) hI (lv_sub hl [4, 3, 2, 1, 0] rfl) hf
  refine lv_iload_n (pc := 74) hx hb dX10_indexOf_74 rfl (lv_at hl 1 rfl) ?_
  refine lv_if_ne (pc := 75) (tgt := 82) hx hb dX10_indexOf_75 (by decide) (fun c2 => ?_) (fun c2 => ?_)
  · have hf := q_in c2 hf
    refine lv_iconst (pc := 82) (v := (-1)) hx hb dX10_indexOf_82 (by decide) ?_
    obtain rfl := Option.some.inj hf
    exact x_iret X hI dX10_indexOf_83
  · have hf := q_ip c2 hf
    refine lv_iload_n (pc := 78) hx hb dX10_indexOf_78 rfl (lv_at hl 2 rfl) ?_
    refine lv_goto (pc := 79) (tgt := 83) hx hb dX10_indexOf_79 (by decide) ?_
    obtain rfl := Option.some.inj hf
    exact x_iret X hI dX10_indexOf_83

abbrev rm_X10_paints : Room := { frames := 0, cells := 0, slots := 0, locals := 0 }
set_option maxHeartbeats 4000000 in
set_option maxRecDepth 100000 in
theorem k_X10_paints_L11 {p : Program} {l : Launch} {e : Env} {s : State} {m : MethodId} {args : Array Value} {below : List Frame} {meth : Method} {c : Code} {A : Nat → Prop} {G : GX} {h : Nat → Nat} {z_thrown : Int32} {z_s : Nat → Int32} {z_kept : Nat → Int32} {z_isKept : Int32} {z_moveMany : Int32} {z_moves : Nat → Int32} {z_hands : Nat → Int32} {z_troubles : Int32} {z_troubleSorts : Nat → Int32} {z_troubleNumbers : Nat → Int32} {z_asked : Nat → Int32} {z_leasts : Nat → Int32} {z_isSeen : Nat → Int32} {z_classMany : Int32} {z_types : Nat → Int32} {z_typeCounts : Nat → Int32} {z_typeMany : Int32} {z_text : Nat → Int32} {z_signs : Int32} {z_at : Int32} {z_lacks : Int32} {z_clauses : Int32} {z_begun : Int32} {z_letters : Nat → Int32} {z_firsts : Nat → Int32} {z_seconds : Nat → Int32} {z_aside : Nat → Int32} {z_sorts : Nat → Int32} {z_sizes : Nat → Int32} {z_items : Nat → Int64} {K : Int32 → Int32 → (Nat → Int32) → Option ((Nat → Int32))} {res : (Nat → Int32)} (X : CX RX10 cX10_paints 4 none p s m args meth c) (E : EX G A s)
    (hK : ∀ (l2 : Int32) (l3 : Int32) (z_paint : (Nat → Int32)) (H : Heap) (locs : List Loc) (ls : Array Slot), IN A G (mw G h z_thrown z_s z_kept z_isKept z_moveMany z_moves z_hands z_troubles z_troubleSorts z_troubleNumbers z_asked z_paint z_leasts z_isSeen z_classMany z_types z_typeCounts z_typeMany z_text z_signs z_at z_lacks z_clauses z_begun z_letters z_firsts z_seconds z_aside z_sorts z_sizes z_items) s H locs → lv_has ls 4 [(0, .ref (h 0)), (2, .int l2), (3, .int l3)] → K l2 l3 z_paint = some res → W p l e rm_X10_paints s m args below meth c H locs 0 0 (MQ below (QX G A (mw G h z_thrown z_s z_kept z_isKept z_moveMany z_moves z_hands z_troubles z_troubleSorts z_troubleNumbers z_asked res z_leasts z_isSeen z_classMany z_types z_typeCounts z_typeMany z_text z_signs z_at z_lacks z_clauses z_begun z_letters z_firsts z_seconds z_aside z_sorts z_sizes z_items) none) args s 0 0 A) (F0 m 44 ls [])) :
    ∀ {k : Nat} {l2 : Int32} {l3 : Int32} {z_paint : (Nat → Int32)} {H : Heap} {locs : List Loc} {ls : Array Slot}, IN A G (mw G h z_thrown z_s z_kept z_isKept z_moveMany z_moves z_hands z_troubles z_troubleSorts z_troubleNumbers z_asked z_paint z_leasts z_isSeen z_classMany z_types z_typeCounts z_typeMany z_text z_signs z_at z_lacks z_clauses z_begun z_letters z_firsts z_seconds z_aside z_sorts z_sizes z_items) s H locs → lv_has ls 4 [(0, .ref (h 0)), (2, .int l2), (3, .int l3)] → f_X10_paints_L11 z_s K k l2 l3 z_paint = some res → W p l e rm_X10_paints s m args below meth c H locs 0 0 (MQ below (QX G A (mw G h z_thrown z_s z_kept z_isKept z_moveMany z_moves z_hands z_troubles z_troubleSorts z_troubleNumbers z_asked res z_leasts z_isSeen z_classMany z_types z_typeCounts z_typeMany z_text z_signs z_at z_lacks z_clauses z_begun z_letters z_firsts z_seconds z_aside z_sorts z_sizes z_items) none) args s 0 0 A) (F0 m 11 ls []) := by
  obtain ⟨hx, hb, hml, hown, hts, hr, hlk⟩ := id X
  intro k
  induction k with
  | zero => intro l2 l3 z_paint H locs ls hI hl hf; exact nomatch (show none = some res from hf)
  | succ k ih =>
    intro l2 l3 z_paint H locs ls hI hl hf
    rw [f_X10_paints_L11] at hf
    refine lv_iload_n (pc := 11) hx hb dX10_paints_11 rfl (lv_at hl 2 rfl) ?_
    refine lv_if_lt (pc := 12) (tgt := 44) hx hb dX10_paints_12 (by decide) (fun c1 => ?_) (fun c1 => ?_)
    · have hf := q_ip c1 hf
      exact hK _ _ _ _ _ _ hI (lv_sub hl [0, 1, 2] rfl) hf
    · have hf := q_in c1 hf
      refine lv_aload_n (pc := 15) hx hb dX10_paints_15 rfl (lv_at hl 0 rfl) ?_
      refine x_get (pc := 16) X E hI inX10 0 rfl rfl 11 (by decide) tw_4_0 rfl dX10_paints_16 ?_
      refine lv_iload_n (pc := 19) hx hb dX10_paints_19 rfl (lv_at hl 2 rfl) ?_
      refine lv_iload_n (pc := 20) hx hb dX10_paints_20 rfl (lv_at hl 1 rfl) ?_
      refine lv_aload_n (pc := 21) hx hb dX10_paints_21 rfl (lv_at hl 0 rfl) ?_
      refine x_get (pc := 22) X E hI inX10 0 rfl rfl 1 (by decide) tw_3_230 rfl dX10_paints_22 ?_
      refine lv_iconst (pc := 25) (v := 1) hx hb dX10_paints_25 (by decide) ?_
      obtain ⟨t2, e2, hf⟩ := q_ob hf
      refine x_iald (pc := 26) X E hI 1 rfl e2 dX10_paints_26 ?_
      obtain ⟨t3, e3, hf⟩ := q_ob hf
      refine x_irem (pc := 27) X e3 dX10_paints_27 ?_
      obtain ⟨t4, e4, hf⟩ := q_ob hf
      refine x_iast (pc := 28) (w' := (mw G h z_thrown z_s z_kept z_isKept z_moveMany z_moves z_hands z_troubles z_troubleSorts z_troubleNumbers z_asked t4 z_leasts z_isSeen z_classMany z_types z_typeCounts z_typeMany z_text z_signs z_at z_lacks z_clauses z_begun z_letters z_firsts z_seconds z_aside z_sorts z_sizes z_items)) X E hI 8 rfl e4 rfl dX10_paints_28 (fun H locs hI => ?_)
      refine lv_iload_n (pc := 29) hx hb dX10_paints_29 rfl (lv_at hl 1 rfl) ?_
      refine lv_aload_n (pc := 30) hx hb dX10_paints_30 rfl (lv_at hl 0 rfl) ?_
      refine x_get (pc := 31) X E hI inX10 0 rfl rfl 1 (by decide) tw_3_230 rfl dX10_paints_31 ?_
      refine lv_iconst (pc := 34) (v := 1) hx hb dX10_paints_34 (by decide) ?_
      obtain ⟨t5, e5, hf⟩ := q_ob hf
      refine x_iald (pc := 35) X E hI 1 rfl e5 dX10_paints_35 ?_
      obtain ⟨t6, e6, hf⟩ := q_ob hf
      refine x_idiv (pc := 36) X e6 dX10_paints_36 ?_
      refine lv_istore_n (pc := 37) (lv' := [(2, .int t6), (0, .ref (h 0)), (3, .int l3)]) hx hb dX10_paints_37 rfl hl (by decide) rfl (fun ls hl => ?_)
      refine lv_iinc (pc := 38) (v := l3 + (-1)) (lv' := [(3, .int (l3 + (-1))), (2, .int t6), (0, .ref (h 0))]) hx hb dX10_paints_38 hl (k := 2) rfl rfl (by decide) rfl (fun ls hl => ?_)
      refine lv_goto (pc := 41) (tgt := 11) hx hb dX10_paints_41 (by decide) ?_
      exact ih hI (lv_sub hl [2, 1, 0] rfl) hf

set_option maxHeartbeats 4000000 in
set_option maxRecDepth 100000 in
theorem c_X10_paints (l : Launch) (G : GX) (h : Nat → Nat) {l1 : Int32} {z_s : Nat → Int32} {z_paint : Nat → Int32} {z_thrown : Int32} {z_kept : Nat → Int32} {z_isKept : Int32} {z_moveMany : Int32} {z_moves : Nat → Int32} {z_hands : Nat → Int32} {z_troubles : Int32} {z_troubleSorts : Nat → Int32} {z_troubleNumbers : Nat → Int32} {z_asked : Nat → Int32} {z_leasts : Nat → Int32} {z_isSeen : Nat → Int32} {z_classMany : Int32} {z_types : Nat → Int32} {z_typeCounts : Nat → Int32} {z_typeMany : Int32} {z_text : Nat → Int32} {z_signs : Int32} {z_at : Int32} {z_lacks : Int32} {z_clauses : Int32} {z_begun : Int32} {z_letters : Nat → Int32} {z_firsts : Nat → Int32} {z_seconds : Nat → Int32} {z_aside : Nat → Int32} {z_sorts : Nat → Int32} {z_sizes : Nat → Int32} {z_items : Nat → Int64} {res : (Nat → Int32)} (hf : f_X10_paints l1 z_s z_paint = some res) : MX l yX10_paints cX10_paints 4 none rm_X10_paints G (mw G h z_thrown z_s z_kept z_isKept z_moveMany z_moves z_hands z_troubles z_troubleSorts z_troubleNumbers z_asked z_paint z_leasts z_isSeen z_classMany z_types z_typeCounts z_typeMany z_text z_signs z_at z_lacks z_clauses z_begun z_letters z_firsts z_seconds z_aside z_sorts z_sizes z_items) [.ref (h 0), .int l1] (mw G h z_thrown z_s z_kept z_isKept z_moveMany z_moves z_hands z_troubles z_troubleSorts z_troubleNumbers z_asked res z_leasts z_isSeen z_classMany z_types z_typeCounts z_typeMany z_text z_signs z_at z_lacks z_clauses z_begun z_letters z_firsts z_seconds z_aside z_sorts z_sizes z_items) none 0 0 := by
  refine MX.of (plainFor_of_name (by decide)) (Nat.le_of_ble_eq_true rfl) ?_
  intro p e s m below meth c A X E hI ls hl
  obtain ⟨hx, hb, hml, hown, hts, hr, hlk⟩ := id X
  have hl : lv_has ls 4 [(0, .ref (h 0)), (1, .int l1)] := hl
  unfold f_X10_paints at hf
  refine lv_iload_n (pc := 0) hx hb dX10_paints_0 rfl (lv_at hl 1 rfl) ?_
  refine lv_istore_n (pc := 1) (lv' := [(2, .int l1), (0, .ref (h 0)), (1, .int l1)]) hx hb dX10_paints_1 rfl hl (by decide) rfl (fun ls hl => ?_)
  refine lv_aload_n (pc := 2) hx hb dX10_paints_2 rfl (lv_at hl 1 rfl) ?_
  refine x_get (pc := 3) X E hI inX10 0 rfl rfl 1 (by decide) tw_3_230 rfl dX10_paints_3 ?_
  refine lv_iconst (pc := 6) (v := 0) hx hb dX10_paints_6 (by decide) ?_
  obtain ⟨t1, e1, hf⟩ := q_ob hf
  refine x_iald (pc := 7) X E hI 1 rfl e1 dX10_paints_7 ?_
  refine lv_iconst (pc := 8) (v := 1) hx hb dX10_paints_8 (by decide) ?_
  refine lv_isub (pc := 9) hx hb dX10_paints_9 ?_
  refine lv_istore_n (pc := 10) (lv' := [(3, .int (t1 - 1)), (2, .int l1), (0, .ref (h 0)), (1, .int l1)]) hx hb dX10_paints_10 rfl hl (by decide) rfl (fun ls hl => ?_)
  refine k_X10_paints_L11 X E (fun l2_2 l3_2 z_paint_2 H locs ls hI hl hf => ?_) hI (lv_sub hl [2, 1, 0] rfl) hf
  obtain rfl := Option.some.inj hf
  exact x_vret X hI dX10_paints_44

abbrev rm_X10_tellsPainting : Room := { frames := 1, cells := 0, slots := 0, locals := 23 }
set_option maxHeartbeats 4000000 in
set_option maxRecDepth 100000 in
theorem k_X10_tellsPainting_L9 {p : Program} {l : Launch} {e : Env} {s : State} {m : MethodId} {args : Array Value} {below : List Frame} {meth : Method} {c : Code} {A : Nat → Prop} {G : GX} {h : Nat → Nat} {z_thrown : Int32} {z_s : Nat → Int32} {z_kept : Nat → Int32} {z_isKept : Int32} {z_moveMany : Int32} {z_moves : Nat → Int32} {z_hands : Nat → Int32} {z_troubles : Int32} {z_troubleSorts : Nat → Int32} {z_troubleNumbers : Nat → Int32} {z_asked : Nat → Int32} {z_paint : Nat → Int32} {z_leasts : Nat → Int32} {z_isSeen : Nat → Int32} {z_classMany : Int32} {z_types : Nat → Int32} {z_typeCounts : Nat → Int32} {z_typeMany : Int32} {z_text : Nat → Int32} {z_signs : Int32} {z_at : Int32} {z_lacks : Int32} {z_clauses : Int32} {z_begun : Int32} {z_letters : Nat → Int32} {z_firsts : Nat → Int32} {z_seconds : Nat → Int32} {z_aside : Nat → Int32} {z_sorts : Nat → Int32} {z_sizes : Nat → Int32} {z_items : Nat → Int64} {K : Int32 → Int32 → Option (Int32 × (Nat → Int32))} {res : Int32 × (Nat → Int32)} (X : CX RX10 cX10_tellsPainting 4 (some .int) p s m args meth c) (E : EX G A s)
    (hK : ∀ (l2 : Int32) (l3 : Int32) (H : Heap) (locs : List Loc) (ls : Array Slot), IN A G (mw G h z_thrown z_s z_kept z_isKept z_moveMany z_moves z_hands z_troubles z_troubleSorts z_troubleNumbers z_asked z_paint z_leasts z_isSeen z_classMany z_types z_typeCounts z_typeMany z_text z_signs z_at z_lacks z_clauses z_begun z_letters z_firsts z_seconds z_aside z_sorts z_sizes z_items) s H locs → lv_has ls 4 [(0, .ref (h 0)), (2, .int l2), (3, .int l3)] → K l2 l3 = some res → W p l e rm_X10_tellsPainting s m args below meth c H locs 0 0 (MQ below (QX G A (mw G h z_thrown z_s z_kept z_isKept z_moveMany z_moves z_hands z_troubles z_troubleSorts z_troubleNumbers z_asked res.2 z_leasts z_isSeen z_classMany z_types z_typeCounts z_typeMany z_text z_signs z_at z_lacks z_clauses z_begun z_letters z_firsts z_seconds z_aside z_sorts z_sizes z_items) (some (.int res.1))) args s 0 0 A) (F0 m 37 ls [])) :
    ∀ {k : Nat} {l2 : Int32} {l3 : Int32} {H : Heap} {locs : List Loc} {ls : Array Slot}, IN A G (mw G h z_thrown z_s z_kept z_isKept z_moveMany z_moves z_hands z_troubles z_troubleSorts z_troubleNumbers z_asked z_paint z_leasts z_isSeen z_classMany z_types z_typeCounts z_typeMany z_text z_signs z_at z_lacks z_clauses z_begun z_letters z_firsts z_seconds z_aside z_sorts z_sizes z_items) s H locs → lv_has ls 4 [(0, .ref (h 0)), (2, .int l2), (3, .int l3)] → f_X10_tellsPainting_L9 z_s z_paint K k l2 l3 = some res → W p l e rm_X10_tellsPainting s m args below meth c H locs 0 0 (MQ below (QX G A (mw G h z_thrown z_s z_kept z_isKept z_moveMany z_moves z_hands z_troubles z_troubleSorts z_troubleNumbers z_asked res.2 z_leasts z_isSeen z_classMany z_types z_typeCounts z_typeMany z_text z_signs z_at z_lacks z_clauses z_begun z_letters z_firsts z_seconds z_aside z_sorts z_sizes z_items) (some (.int res.1))) args s 0 0 A) (F0 m 9 ls []) := by
  obtain ⟨hx, hb, hml, hown, hts, hr, hlk⟩ := id X
  intro k
  induction k with
  | zero => intro l2 l3 H locs ls hI hl hf; exact nomatch (show none = some res from hf)
  | succ k ih =>
    intro l2 l3 H locs ls hI hl hf
    rw [f_X10_tellsPainting_L9] at hf
    refine lv_iload_n (pc := 9) hx hb dX10_tellsPainting_9 rfl (lv_at hl 2 rfl) ?_
    refine lv_aload_n (pc := 10) hx hb dX10_tellsPainting_10 rfl (lv_at hl 0 rfl) ?_
    refine x_get (pc := 11) X E hI inX10 0 rfl rfl 1 (by decide) tw_3_230 rfl dX10_tellsPainting_11 ?_
    refine lv_iconst (pc := 14) (v := 0) hx hb dX10_tellsPainting_14 (by decide) ?_
    obtain ⟨t1, e1, hf⟩ := q_ob hf
    refine x_iald (pc := 15) X E hI 1 rfl e1 dX10_tellsPainting_15 ?_
    refine lv_icmp_ge (pc := 16) (tgt := 37) hx hb dX10_tellsPainting_16 (by decide) (fun c2 => ?_) (fun c2 => ?_)
    · have hf := q_ip c2 hf
      exact hK _ _ _ _ _ hI (lv_sub hl [0, 1, 2] rfl) hf
    · have hf := q_in c2 hf
      refine lv_bipush (pc := 19) (v := 10) hx hb dX10_tellsPainting_19 (by decide) ?_
      refine lv_iload_n (pc := 21) hx hb dX10_tellsPainting_21 rfl (lv_at hl 1 rfl) ?_
      refine lv_imul (pc := 22) hx hb dX10_tellsPainting_22 ?_
      refine lv_aload_n (pc := 23) hx hb dX10_tellsPainting_23 rfl (lv_at hl 0 rfl) ?_
      refine x_get (pc := 24) X E hI inX10 0 rfl rfl 11 (by decide) tw_4_0 rfl dX10_tellsPainting_24 ?_
      refine lv_iload_n (pc := 27) hx hb dX10_tellsPainting_27 rfl (lv_at hl 2 rfl) ?_
      obtain ⟨t3, e3, hf⟩ := q_ob hf
      refine x_iald (pc := 28) X E hI 8 rfl e3 dX10_tellsPainting_28 ?_
      refine lv_iadd (pc := 29) hx hb dX10_tellsPainting_29 ?_
      refine lv_istore_n (pc := 30) (lv' := [(2, .int ((10 * l2) + t3)), (0, .ref (h 0)), (3, .int l3)]) hx hb dX10_tellsPainting_30 rfl hl (by decide) rfl (fun ls hl => ?_)
      refine lv_iinc (pc := 31) (v := l3 + 1) (lv' := [(3, .int (l3 + 1)), (2, .int ((10 * l2) + t3)), (0, .ref (h 0))]) hx hb dX10_tellsPainting_31 hl (k := 2) rfl rfl (by decide) rfl (fun ls hl => ?_)
      refine lv_goto (pc := 34) (tgt := 9) hx hb dX10_tellsPainting_34 (by decide) ?_
      exact ih hI (lv_sub hl [2, 1, 0] rfl) hf

set_option maxHeartbeats 4000000 in
set_option maxRecDepth 100000 in
theorem c_X10_tellsPainting (l : Launch) (G : GX) (h : Nat → Nat) {l1 : Int32} {z_s : Nat → Int32} {z_paint : Nat → Int32} {z_thrown : Int32} {z_kept : Nat → Int32} {z_isKept : Int32} {z_moveMany : Int32} {z_moves : Nat → Int32} {z_hands : Nat → Int32} {z_troubles : Int32} {z_troubleSorts : Nat → Int32} {z_troubleNumbers : Nat → Int32} {z_asked : Nat → Int32} {z_leasts : Nat → Int32} {z_isSeen : Nat → Int32} {z_classMany : Int32} {z_types : Nat → Int32} {z_typeCounts : Nat → Int32} {z_typeMany : Int32} {z_text : Nat → Int32} {z_signs : Int32} {z_at : Int32} {z_lacks : Int32} {z_clauses : Int32} {z_begun : Int32} {z_letters : Nat → Int32} {z_firsts : Nat → Int32} {z_seconds : Nat → Int32} {z_aside : Nat → Int32} {z_sorts : Nat → Int32} {z_sizes : Nat → Int32} {z_items : Nat → Int64} {res : Int32 × (Nat → Int32)} (hf : f_X10_tellsPainting l1 z_s z_paint = some res) : MX l yX10_tellsPainting cX10_tellsPainting 4 (some .int) rm_X10_tellsPainting G (mw G h z_thrown z_s z_kept z_isKept z_moveMany z_moves z_hands z_troubles z_troubleSorts z_troubleNumbers z_asked z_paint z_leasts z_isSeen z_classMany z_types z_typeCounts z_typeMany z_text z_signs z_at z_lacks z_clauses z_begun z_letters z_firsts z_seconds z_aside z_sorts z_sizes z_items) [.ref (h 0), .int l1] (mw G h z_thrown z_s z_kept z_isKept z_moveMany z_moves z_hands z_troubles z_troubleSorts z_troubleNumbers z_asked res.2 z_leasts z_isSeen z_classMany z_types z_typeCounts z_typeMany z_text z_signs z_at z_lacks z_clauses z_begun z_letters z_firsts z_seconds z_aside z_sorts z_sizes z_items) (some (.int res.1)) 0 0 := by
  refine MX.of (plainFor_of_name (by decide)) (Nat.le_of_ble_eq_true rfl) ?_
  intro p e s m below meth c A X E hI ls hl
  obtain ⟨hx, hb, hml, hown, hts, hr, hlk⟩ := id X
  have hl : lv_has ls 4 [(0, .ref (h 0)), (1, .int l1)] := hl
  unfold f_X10_tellsPainting at hf
  refine lv_aload_n (pc := 0) hx hb dX10_tellsPainting_0 rfl (lv_at hl 0 rfl) ?_
  refine lv_iload_n (pc := 1) hx hb dX10_tellsPainting_1 rfl (lv_at hl 1 rfl) ?_
  obtain ⟨t1, e1, hf⟩ := q_ob hf
  refine x_cVs (pc := 2) (st1 := []) (w1 := (mw G h z_thrown z_s z_kept z_isKept z_moveMany z_moves z_hands z_troubles z_troubleSorts z_troubleNumbers z_asked t1 z_leasts z_isSeen z_classMany z_types z_typeCounts z_typeMany z_text z_signs z_at z_lacks z_clauses z_begun z_letters z_firsts z_seconds z_aside z_sorts z_sizes z_items)) X E hI (c_X10_paints l G h e1) kv_X10_168 hd_X10_paints ⟨rfl, rfl⟩ (by decide) 0 rfl rfl rfl rfl hl.1 rfl (Nat.le_of_ble_eq_true rfl) dX10_tellsPainting_2 ⟨Nat.le_of_ble_eq_true rfl, Nat.le_of_ble_eq_true rfl⟩ rfl (fun H locs hI => ?_)
  refine lv_iconst (pc := 5) (v := 0) hx hb dX10_tellsPainting_5 (by decide) ?_
  refine lv_istore_n (pc := 6) (lv' := [(2, .int 0), (0, .ref (h 0)), (1, .int l1)]) hx hb dX10_tellsPainting_6 rfl hl (by decide) rfl (fun ls hl => ?_)
  refine lv_iconst (pc := 7) (v := 0) hx hb dX10_tellsPainting_7 (by decide) ?_
  refine lv_istore_n (pc := 8) (lv' := [(3, .int 0), (2, .int 0), (0, .ref (h 0)), (1, .int l1)]) hx hb dX10_tellsPainting_8 rfl hl (by decide) rfl (fun ls hl => ?_)
  refine k_X10_tellsPainting_L9 X E (fun l2_2 l3_2 H locs ls hI hl hf => ?_) hI (lv_sub hl [2, 1, 0] rfl) hf
  refine lv_iload_n (pc := 37) hx hb dX10_tellsPainting_37 rfl (lv_at hl 1 rfl) ?_
  obtain rfl := Option.some.inj hf
  exact x_iret X hI dX10_tellsPainting_38

abbrev rm_X10_becomes : Room := { frames := 1, cells := 0, slots := 0, locals := 22 }
set_option maxHeartbeats 4000000 in
set_option maxRecDepth 100000 in
theorem k_X10_becomes_L4 {p : Program} {l : Launch} {e : Env} {s : State} {m : MethodId} {args : Array Value} {below : List Frame} {meth : Method} {c : Code} {A : Nat → Prop} {G : GX} {h : Nat → Nat} {l1 : Int32} {z_thrown : Int32} {z_s : Nat → Int32} {z_kept : Nat → Int32} {z_isKept : Int32} {z_moveMany : Int32} {z_moves : Nat → Int32} {z_hands : Nat → Int32} {z_troubles : Int32} {z_troubleSorts : Nat → Int32} {z_troubleNumbers : Nat → Int32} {z_asked : Nat → Int32} {z_paint : Nat → Int32} {z_leasts : Nat → Int32} {z_isSeen : Nat → Int32} {z_classMany : Int32} {z_types : Nat → Int32} {z_typeCounts : Nat → Int32} {z_typeMany : Int32} {z_text : Nat → Int32} {z_signs : Int32} {z_at : Int32} {z_lacks : Int32} {z_clauses : Int32} {z_begun : Int32} {z_letters : Nat → Int32} {z_firsts : Nat → Int32} {z_seconds : Nat → Int32} {z_aside : Nat → Int32} {z_sorts : Nat → Int32} {z_sizes : Nat → Int32} {z_items : Nat → Int64} {K : Int32 → Int32 → Option (Int32)} {res : Int32} (X : CX RX10 cX10_becomes 4 (some .int) p s m args meth c) (E : EX G A s)
    (hK : ∀ (l2 : Int32) (l3 : Int32) (H : Heap) (locs : List Loc) (ls : Array Slot), IN A G (mw G h z_thrown z_s z_kept z_isKept z_moveMany z_moves z_hands z_troubles z_troubleSorts z_troubleNumbers z_asked z_paint z_leasts z_isSeen z_classMany z_types z_typeCounts z_typeMany z_text z_signs z_at z_lacks z_clauses z_begun z_letters z_firsts z_seconds z_aside z_sorts z_sizes z_items) s H locs → lv_has ls 4 [(0, .ref (h 0)), (1, .int l1), (2, .int l2), (3, .int l3)] → K l2 l3 = some res → W p l e rm_X10_becomes s m args below meth c H locs 0 0 (MQ below (QX G A (mw G h z_thrown z_s z_kept z_isKept z_moveMany z_moves z_hands z_troubles z_troubleSorts z_troubleNumbers z_asked z_paint z_leasts z_isSeen z_classMany z_types z_typeCounts z_typeMany z_text z_signs z_at z_lacks z_clauses z_begun z_letters z_firsts z_seconds z_aside z_sorts z_sizes z_items) (some (.int res))) args s 0 0 A) (F0 m 41 ls [])) :
    ∀ {k : Nat} {l2 : Int32} {l3 : Int32} {H : Heap} {locs : List Loc} {ls : Array Slot}, IN A G (mw G h z_thrown z_s z_kept z_isKept z_moveMany z_moves z_hands z_troubles z_troubleSorts z_troubleNumbers z_asked z_paint z_leasts z_isSeen z_classMany z_types z_typeCounts z_typeMany z_text z_signs z_at z_lacks z_clauses z_begun z_letters z_firsts z_seconds z_aside z_sorts z_sizes z_items) s H locs → lv_has ls 4 [(0, .ref (h 0)), (1, .int l1), (2, .int l2), (3, .int l3)] → f_X10_becomes_L4 l1 z_s z_moves z_paint K k l2 l3 = some res → W p l e rm_X10_becomes s m args below meth c H locs 0 0 (MQ below (QX G A (mw G h z_thrown z_s z_kept z_isKept z_moveMany z_moves z_hands z_troubles z_troubleSorts z_troubleNumbers z_asked z_paint z_leasts z_isSeen z_classMany z_types z_typeCounts z_typeMany z_text z_signs z_at z_lacks z_clauses z_begun z_letters z_firsts z_seconds z_aside z_sorts z_sizes z_items) (some (.int res))) args s 0 0 A) (F0 m 4 ls []) := by
  obtain ⟨hx, hb, hml, hown, hts, hr, hlk⟩ := id X
  intro k
  induction k with
  | zero => intro l2 l3 H locs ls hI hl hf; exact nomatch (show none = some res from hf)
  | succ k ih =>
    intro l2 l3 H locs ls hI hl hf
    rw [f_X10_becomes_L4] at hf
    refine lv_iload_n (pc := 4) hx hb dX10_becomes_4 rfl (lv_at hl 3 rfl) ?_
    refine lv_aload_n (pc := 5) hx hb dX10_becomes_5 rfl (lv_at hl 0 rfl) ?_
    refine x_get (pc := 6) X E hI inX10 0 rfl rfl 1 (by decide) tw_3_230 rfl dX10_becomes_6 ?_
    refine lv_iconst (pc := 9) (v := 0) hx hb dX10_becomes_9 (by decide) ?_
    obtain ⟨t1, e1, hf⟩ := q_ob hf
    refine x_iald (pc := 10) X E hI 1 rfl e1 dX10_becomes_10 ?_
    refine lv_icmp_ge (pc := 11) (tgt := 41) hx hb dX10_becomes_11 (by decide) (fun c2 => ?_) (fun c2 => ?_)
    · have hf := q_ip c2 hf
      exact hK _ _ _ _ _ hI (lv_sub hl [0, 1, 2, 3] rfl) hf
    · have hf := q_in c2 hf
      refine lv_iload_n (pc := 14) hx hb dX10_becomes_14 rfl (lv_at hl 2 rfl) ?_
      refine lv_aload_n (pc := 15) hx hb dX10_becomes_15 rfl (lv_at hl 0 rfl) ?_
      refine x_get (pc := 16) X E hI inX10 0 rfl rfl 1 (by decide) tw_3_230 rfl dX10_becomes_16 ?_
      refine lv_iconst (pc := 19) (v := 1) hx hb dX10_becomes_19 (by decide) ?_
      obtain ⟨t3, e3, hf⟩ := q_ob hf
      refine x_iald (pc := 20) X E hI 1 rfl e3 dX10_becomes_20 ?_
      refine lv_imul (pc := 21) hx hb dX10_becomes_21 ?_
      refine lv_aload_n (pc := 22) hx hb dX10_becomes_22 rfl (lv_at hl 0 rfl) ?_
      refine x_get (pc := 23) X E hI inX10 0 rfl rfl 11 (by decide) tw_4_0 rfl dX10_becomes_23 ?_
      refine lv_aload_n (pc := 26) hx hb dX10_becomes_26 rfl (lv_at hl 0 rfl) ?_
      refine lv_iload_n (pc := 27) hx hb dX10_becomes_27 rfl (lv_at hl 1 rfl) ?_
      refine lv_iload_n (pc := 28) hx hb dX10_becomes_28 rfl (lv_at hl 3 rfl) ?_
      obtain ⟨t4, e4, hf⟩ := q_ob hf
      refine x_cVs (pc := 29) (st1 := [.int t4, .ref (h 8), .int (l2 * t3)]) (w1 := (mw G h z_thrown z_s z_kept z_isKept z_moveMany z_moves z_hands z_troubles z_troubleSorts z_troubleNumbers z_asked z_paint z_leasts z_isSeen z_classMany z_types z_typeCounts z_typeMany z_text z_signs z_at z_lacks z_clauses z_begun z_letters z_firsts z_seconds z_aside z_sorts z_sizes z_items)) X E hI (c_X10_digit l G h e4) kv_X10_95 hd_X10_digit ⟨rfl, rfl⟩ (by decide) 0 rfl rfl rfl rfl hl.1 rfl (Nat.le_of_ble_eq_true rfl) dX10_becomes_29 ⟨Nat.le_of_ble_eq_true rfl, Nat.le_of_ble_eq_true rfl⟩ rfl (fun H locs hI => ?_)
      obtain ⟨t5, e5, hf⟩ := q_ob hf
      refine x_iald (pc := 32) X E hI 8 rfl e5 dX10_becomes_32 ?_
      refine lv_iadd (pc := 33) hx hb dX10_becomes_33 ?_
      refine lv_istore_n (pc := 34) (lv' := [(2, .int ((l2 * t3) + t5)), (0, .ref (h 0)), (1, .int l1), (3, .int l3)]) hx hb dX10_becomes_34 rfl hl (by decide) rfl (fun ls hl => ?_)
      refine lv_iinc (pc := 35) (v := l3 + 1) (lv' := [(3, .int (l3 + 1)), (2, .int ((l2 * t3) + t5)), (0, .ref (h 0)), (1, .int l1)]) hx hb dX10_becomes_35 hl (k := 3) rfl rfl (by decide) rfl (fun ls hl => ?_)
      refine lv_goto (pc := 38) (tgt := 4) hx hb dX10_becomes_38 (by decide) ?_
      exact ih hI (lv_sub hl [2, 3, 1, 0] rfl) hf

set_option maxHeartbeats 4000000 in
set_option maxRecDepth 100000 in
theorem c_X10_becomes (l : Launch) (G : GX) (h : Nat → Nat) {l1 : Int32} {z_s : Nat → Int32} {z_moves : Nat → Int32} {z_paint : Nat → Int32} {z_thrown : Int32} {z_kept : Nat → Int32} {z_isKept : Int32} {z_moveMany : Int32} {z_hands : Nat → Int32} {z_troubles : Int32} {z_troubleSorts : Nat → Int32} {z_troubleNumbers : Nat → Int32} {z_asked : Nat → Int32} {z_leasts : Nat → Int32} {z_isSeen : Nat → Int32} {z_classMany : Int32} {z_types : Nat → Int32} {z_typeCounts : Nat → Int32} {z_typeMany : Int32} {z_text : Nat → Int32} {z_signs : Int32} {z_at : Int32} {z_lacks : Int32} {z_clauses : Int32} {z_begun : Int32} {z_letters : Nat → Int32} {z_firsts : Nat → Int32} {z_seconds : Nat → Int32} {z_aside : Nat → Int32} {z_sorts : Nat → Int32} {z_sizes : Nat → Int32} {z_items : Nat → Int64} {res : Int32} (hf : f_X10_becomes l1 z_s z_moves z_paint = some res) : MX l yX10_becomes cX10_becomes 4 (some .int) rm_X10_becomes G (mw G h z_thrown z_s z_kept z_isKept z_moveMany z_moves z_hands z_troubles z_troubleSorts z_troubleNumbers z_asked z_paint z_leasts z_isSeen z_classMany z_types z_typeCounts z_typeMany z_text z_signs z_at z_lacks z_clauses z_begun z_letters z_firsts z_seconds z_aside z_sorts z_sizes z_items) [.ref (h 0), .int l1] (mw G h z_thrown z_s z_kept z_isKept z_moveMany z_moves z_hands z_troubles z_troubleSorts z_troubleNumbers z_asked z_paint z_leasts z_isSeen z_classMany z_types z_typeCounts z_typeMany z_text z_signs z_at z_lacks z_clauses z_begun z_letters z_firsts z_seconds z_aside z_sorts z_sizes z_items) (some (.int res)) 0 0 := by
  refine MX.of (plainFor_of_name (by decide)) (Nat.le_of_ble_eq_true rfl) ?_
  intro p e s m below meth c A X E hI ls hl
  obtain ⟨hx, hb, hml, hown, hts, hr, hlk⟩ := id X
  have hl : lv_has ls 4 [(0, .ref (h 0)), (1, .int l1)] := hl
  unfold f_X10_becomes at hf
  refine lv_iconst (pc := 0) (v := 0) hx hb dX10_becomes_0 (by decide) ?_
  refine lv_istore_n (pc := 1) (lv' := [(2, .int 0), (0, .ref (h 0)), (1, .int l1)]) hx hb dX10_becomes_1 rfl hl (by decide) rfl (fun ls hl => ?_)
  refine lv_iconst (pc := 2) (v := 0) hx hb dX10_becomes_2 (by decide) ?_
  refine lv_istore_n (pc := 3) (lv' := [(3, .int 0), (2, .int 0), (0, .ref (h 0)), (1, .int l1)]) hx hb dX10_becomes_3 rfl hl (by decide) rfl (fun ls hl => ?_)
  refine k_X10_becomes_L4 X E (fun l2_1 l3_1 H locs ls hI hl hf => ?_) hI (lv_sub hl [2, 3, 1, 0] rfl) hf
  refine lv_iload_n (pc := 41) hx hb dX10_becomes_41 rfl (lv_at hl 2 rfl) ?_
  obtain rfl := Option.some.inj hf
  exact x_iret X hI dX10_becomes_42

abbrev rm_X10_leastOf : Room := { frames := 2, cells := 0, slots := 0, locals := 45 }
set_option maxHeartbeats 4000000 in
set_option maxRecDepth 100000 in
theorem k_X10_leastOf_L10 {p : Program} {l : Launch} {e : Env} {s : State} {m : MethodId} {args : Array Value} {below : List Frame} {meth : Method} {c : Code} {A : Nat → Prop} {G : GX} {h : Nat → Nat} {l1 : Int32} {z_thrown : Int32} {z_s : Nat → Int32} {z_kept : Nat → Int32} {z_isKept : Int32} {z_moveMany : Int32} {z_moves : Nat → Int32} {z_hands : Nat → Int32} {z_troubles : Int32} {z_troubleSorts : Nat → Int32} {z_troubleNumbers : Nat → Int32} {z_asked : Nat → Int32} {z_paint : Nat → Int32} {z_leasts : Nat → Int32} {z_isSeen : Nat → Int32} {z_classMany : Int32} {z_types : Nat → Int32} {z_typeCounts : Nat → Int32} {z_typeMany : Int32} {z_text : Nat → Int32} {z_signs : Int32} {z_at : Int32} {z_lacks : Int32} {z_clauses : Int32} {z_begun : Int32} {z_letters : Nat → Int32} {z_firsts : Nat → Int32} {z_seconds : Nat → Int32} {z_aside : Nat → Int32} {z_sorts : Nat → Int32} {z_sizes : Nat → Int32} {z_items : Nat → Int64} {K : Int32 → Int32 → Option (Int32 × (Nat → Int32))} {res : Int32 × (Nat → Int32)} (X : CX RX10 cX10_leastOf 5 (some .int) p s m args meth c) (E : EX G A s)
    (hK : ∀ (l3 : Int32) (l4 : Int32) (H : Heap) (locs : List Loc) (ls : Array Slot), IN A G (mw G h z_thrown z_s z_kept z_isKept z_moveMany z_moves z_hands z_troubles z_troubleSorts z_troubleNumbers z_asked z_paint z_leasts z_isSeen z_classMany z_types z_typeCounts z_typeMany z_text z_signs z_at z_lacks z_clauses z_begun z_letters z_firsts z_seconds z_aside z_sorts z_sizes z_items) s H locs → lv_has ls 5 [(0, .ref (h 0)), (1, .int l1), (3, .int l3), (4, .int l4)] → K l3 l4 = some res → W p l e rm_X10_leastOf s m args below meth c H locs 0 0 (MQ below (QX G A (mw G h z_thrown z_s z_kept z_isKept z_moveMany z_moves z_hands z_troubles z_troubleSorts z_troubleNumbers z_asked res.2 z_leasts z_isSeen z_classMany z_types z_typeCounts z_typeMany z_text z_signs z_at z_lacks z_clauses z_begun z_letters z_firsts z_seconds z_aside z_sorts z_sizes z_items) (some (.int res.1))) args s 0 0 A) (F0 m 50 ls [])) :
    ∀ {k : Nat} {l3 : Int32} {l4 : Int32} {H : Heap} {locs : List Loc} {ls : Array Slot}, IN A G (mw G h z_thrown z_s z_kept z_isKept z_moveMany z_moves z_hands z_troubles z_troubleSorts z_troubleNumbers z_asked z_paint z_leasts z_isSeen z_classMany z_types z_typeCounts z_typeMany z_text z_signs z_at z_lacks z_clauses z_begun z_letters z_firsts z_seconds z_aside z_sorts z_sizes z_items) s H locs → lv_has ls 5 [(0, .ref (h 0)), (1, .int l1), (3, .int l3), (4, .int l4)] → f_X10_leastOf_L10 l1 z_s z_moveMany z_moves z_hands z_paint K k l3 l4 = some res → W p l e rm_X10_leastOf s m args below meth c H locs 0 0 (MQ below (QX G A (mw G h z_thrown z_s z_kept z_isKept z_moveMany z_moves z_hands z_troubles z_troubleSorts z_troubleNumbers z_asked res.2 z_leasts z_isSeen z_classMany z_types z_typeCounts z_typeMany z_text z_signs z_at z_lacks z_clauses z_begun z_letters z_firsts z_seconds z_aside z_sorts z_sizes z_items) (some (.int res.1))) args s 0 0 A) (F0 m 10 ls []) := by
  obtain ⟨hx, hb, hml, hown, hts, hr, hlk⟩ := id X
  intro k
  induction k with
  | zero => intro l3 l4 H locs ls hI hl hf; exact nomatch (show none = some res from hf)
  | succ k ih =>
    intro l3 l4 H locs ls hI hl hf
    rw [f_X10_leastOf_L10] at hf
    refine lv_iload (pc := 10) hx hb dX10_leastOf_10 (lv_at hl 3 rfl) ?_
    refine lv_aload_n (pc := 12) hx hb dX10_leastOf_12 rfl (lv_at hl 0 rfl) ?_
    refine x_get (pc := 13) X E hI inX10 0 rfl rfl 4 (by decide) tw_3_233 rfl dX10_leastOf_13 ?_
    refine lv_icmp_ge (pc := 16) (tgt := 50) hx hb dX10_leastOf_16 (by decide) (fun c1 => ?_) (fun c1 => ?_)
    · have hf := q_ip c1 hf
      exact hK _ _ _ _ _ hI (lv_sub hl [0, 1, 2, 3] rfl) hf
    · have hf := q_in c1 hf
      refine lv_aload_n (pc := 19) hx hb dX10_leastOf_19 rfl (lv_at hl 0 rfl) ?_
      refine lv_iload (pc := 20) hx hb dX10_leastOf_20 (lv_at hl 3 rfl) ?_
      refine lv_iload_n (pc := 22) hx hb dX10_leastOf_22 rfl (lv_at hl 1 rfl) ?_
      obtain ⟨t2, e2, hf⟩ := q_ob hf
      refine x_cVs (pc := 23) (st1 := [.int t2]) (w1 := (mw G h z_thrown z_s z_kept z_isKept z_moveMany z_moves z_hands z_troubles z_troubleSorts z_troubleNumbers z_asked z_paint z_leasts z_isSeen z_classMany z_types z_typeCounts z_typeMany z_text z_signs z_at z_lacks z_clauses z_begun z_letters z_firsts z_seconds z_aside z_sorts z_sizes z_items)) X E hI (c_X10_counts l G h e2) kv_X10_132 hd_X10_counts ⟨rfl, rfl⟩ (by decide) 0 rfl rfl rfl rfl hl.1 rfl (Nat.le_of_ble_eq_true rfl) dX10_leastOf_23 ⟨Nat.le_of_ble_eq_true rfl, Nat.le_of_ble_eq_true rfl⟩ rfl (fun H locs hI => ?_)
      refine lv_if_eq (pc := 26) (tgt := 42) hx hb dX10_leastOf_26 (by decide) (fun c3 => ?_) (fun c3 => ?_)
      · have hf := q_ip c3 hf
        refine lv_iload_n (pc := 42) hx hb dX10_leastOf_42 rfl (lv_at hl 2 rfl) ?_
        refine lv_istore_n (pc := 43) (lv' := [(3, .int l3), (0, .ref (h 0)), (1, .int l1), (4, .int l4)]) hx hb dX10_leastOf_43 rfl hl (by decide) rfl (fun ls hl => ?_)
        refine lv_iinc (pc := 44) (v := l4 + 1) (lv' := [(4, .int (l4 + 1)), (3, .int l3), (0, .ref (h 0)), (1, .int l1)]) hx hb dX10_leastOf_44 hl (k := 3) rfl rfl (by decide) rfl (fun ls hl => ?_)
        refine lv_goto (pc := 47) (tgt := 10) hx hb dX10_leastOf_47 (by decide) ?_
        exact ih hI (lv_sub hl [2, 3, 1, 0] rfl) hf
      · have hf := q_in c3 hf
        refine lv_iload_n (pc := 29) hx hb dX10_leastOf_29 rfl (lv_at hl 2 rfl) ?_
        refine lv_aload_n (pc := 30) hx hb dX10_leastOf_30 rfl (lv_at hl 0 rfl) ?_
        refine lv_iload (pc := 31) hx hb dX10_leastOf_31 (lv_at hl 3 rfl) ?_
        obtain ⟨t4, e4, hf⟩ := q_ob hf
        refine x_cVs (pc := 33) (st1 := [.int t4, .int l3]) (w1 := (mw G h z_thrown z_s z_kept z_isKept z_moveMany z_moves z_hands z_troubles z_troubleSorts z_troubleNumbers z_asked z_paint z_leasts z_isSeen z_classMany z_types z_typeCounts z_typeMany z_text z_signs z_at z_lacks z_clauses z_begun z_letters z_firsts z_seconds z_aside z_sorts z_sizes z_items)) X E hI (c_X10_becomes l G h e4) kv_X10_172 hd_X10_becomes ⟨rfl, rfl⟩ (by decide) 0 rfl rfl rfl rfl hl.1 rfl (Nat.le_of_ble_eq_true rfl) dX10_leastOf_33 ⟨Nat.le_of_ble_eq_true rfl, Nat.le_of_ble_eq_true rfl⟩ rfl (fun H locs hI => ?_)
        refine va_mmin (pc := 36) hx hb (hml.trans hl.1.symm) hown (hts _ tw_5_25) (hts _ tw_5_26) (hts _ tw_1_12) (hts _ q_minc) (by decide) (Nat.le_of_ble_eq_true rfl) (Nat.zero_le _) (Nat.zero_le _) dX10_leastOf_36 ?_
        refine lv_goto (pc := 39) (tgt := 43) hx hb dX10_leastOf_39 (by decide) ?_
        refine lv_istore_n (pc := 43) (lv' := [(3, .int (if t4 < l3 then t4 else l3)), (0, .ref (h 0)), (1, .int l1), (4, .int l4)]) hx hb dX10_leastOf_43 rfl hl (by decide) rfl (fun ls hl => ?_)
        refine lv_iinc (pc := 44) (v := l4 + 1) (lv' := [(4, .int (l4 + 1)), (3, .int (if t4 < l3 then t4 else l3)), (0, .ref (h 0)), (1, .int l1)]) hx hb dX10_leastOf_44 hl (k := 3) rfl rfl (by decide) rfl (fun ls hl => ?_)
        refine lv_goto (pc := 47) (tgt := 10) hx hb dX10_leastOf_47 (by decide) ?_
        exact ih hI (lv_sub hl [2, 3, 1, 0] rfl) hf

set_option maxHeartbeats 4000000 in
set_option maxRecDepth 100000 in
theorem c_X10_leastOf (l : Launch) (G : GX) (h : Nat → Nat) {l1 : Int32} {l2 : Int32} {z_s : Nat → Int32} {z_moveMany : Int32} {z_moves : Nat → Int32} {z_hands : Nat → Int32} {z_paint : Nat → Int32} {z_thrown : Int32} {z_kept : Nat → Int32} {z_isKept : Int32} {z_troubles : Int32} {z_troubleSorts : Nat → Int32} {z_troubleNumbers : Nat → Int32} {z_asked : Nat → Int32} {z_leasts : Nat → Int32} {z_isSeen : Nat → Int32} {z_classMany : Int32} {z_types : Nat → Int32} {z_typeCounts : Nat → Int32} {z_typeMany : Int32} {z_text : Nat → Int32} {z_signs : Int32} {z_at : Int32} {z_lacks : Int32} {z_clauses : Int32} {z_begun : Int32} {z_letters : Nat → Int32} {z_firsts : Nat → Int32} {z_seconds : Nat → Int32} {z_aside : Nat → Int32} {z_sorts : Nat → Int32} {z_sizes : Nat → Int32} {z_items : Nat → Int64} {res : Int32 × (Nat → Int32)} (hf : f_X10_leastOf l1 l2 z_s z_moveMany z_moves z_hands z_paint = some res) : MX l yX10_leastOf cX10_leastOf 5 (some .int) rm_X10_leastOf G (mw G h z_thrown z_s z_kept z_isKept z_moveMany z_moves z_hands z_troubles z_troubleSorts z_troubleNumbers z_asked z_paint z_leasts z_isSeen z_classMany z_types z_typeCounts z_typeMany z_text z_signs z_at z_lacks z_clauses z_begun z_letters z_firsts z_seconds z_aside z_sorts z_sizes z_items) [.ref (h 0), .int l1, .int l2] (mw G h z_thrown z_s z_kept z_isKept z_moveMany z_moves z_hands z_troubles z_troubleSorts z_troubleNumbers z_asked res.2 z_leasts z_isSeen z_classMany z_types z_typeCounts z_typeMany z_text z_signs z_at z_lacks z_clauses z_begun z_letters z_firsts z_seconds z_aside z_sorts z_sizes z_items) (some (.int res.1)) 0 0 := by
  refine MX.of (plainFor_of_name (by decide)) (Nat.le_of_ble_eq_true rfl) ?_
  intro p e s m below meth c A X E hI ls hl
  obtain ⟨hx, hb, hml, hown, hts, hr, hlk⟩ := id X
  have hl : lv_has ls 5 [(0, .ref (h 0)), (1, .int l1), (2, .int l2)] := hl
  unfold f_X10_leastOf at hf
  refine lv_aload_n (pc := 0) hx hb dX10_leastOf_0 rfl (lv_at hl 0 rfl) ?_
  refine lv_iload_n (pc := 1) hx hb dX10_leastOf_1 rfl (lv_at hl 2 rfl) ?_
  obtain ⟨t1, e1, hf⟩ := q_ob hf
  refine x_cVs (pc := 2) (st1 := []) (w1 := (mw G h z_thrown z_s z_kept z_isKept z_moveMany z_moves z_hands z_troubles z_troubleSorts z_troubleNumbers z_asked t1 z_leasts z_isSeen z_classMany z_types z_typeCounts z_typeMany z_text z_signs z_at z_lacks z_clauses z_begun z_letters z_firsts z_seconds z_aside z_sorts z_sizes z_items)) X E hI (c_X10_paints l G h e1) kv_X10_168 hd_X10_paints ⟨rfl, rfl⟩ (by decide) 0 rfl rfl rfl rfl hl.1 rfl (Nat.le_of_ble_eq_true rfl) dX10_leastOf_2 ⟨Nat.le_of_ble_eq_true rfl, Nat.le_of_ble_eq_true rfl⟩ rfl (fun H locs hI => ?_)
  refine lv_iload_n (pc := 5) hx hb dX10_leastOf_5 rfl (lv_at hl 2 rfl) ?_
  refine lv_istore_n (pc := 6) (lv' := [(3, .int l2), (0, .ref (h 0)), (1, .int l1), (2, .int l2)]) hx hb dX10_leastOf_6 rfl hl (by decide) rfl (fun ls hl => ?_)
  refine lv_iconst (pc := 7) (v := 0) hx hb dX10_leastOf_7 (by decide) ?_
  refine lv_istore (pc := 8) (lv' := [(4, .int 0), (3, .int l2), (0, .ref (h 0)), (1, .int l1), (2, .int l2)]) hx hb dX10_leastOf_8 hl (by decide) rfl (fun ls hl => ?_)
  refine k_X10_leastOf_L10 X E (fun l3_2 l4_2 H locs ls hI hl hf => ?_) hI (lv_sub hl [2, 3, 1, 0] rfl) hf
  refine lv_iload_n (pc := 50) hx hb dX10_leastOf_50 rfl (lv_at hl 2 rfl) ?_
  obtain rfl := Option.some.inj hf
  exact x_iret X hI dX10_leastOf_51

abbrev rm_X10_sizeOf : Room := { frames := 2, cells := 0, slots := 0, locals := 45 }
set_option maxHeartbeats 4000000 in
set_option maxRecDepth 100000 in
theorem k_X10_sizeOf_L10 {p : Program} {l : Launch} {e : Env} {s : State} {m : MethodId} {args : Array Value} {below : List Frame} {meth : Method} {c : Code} {A : Nat → Prop} {G : GX} {h : Nat → Nat} {l1 : Int32} {l2 : Int32} {z_thrown : Int32} {z_s : Nat → Int32} {z_kept : Nat → Int32} {z_isKept : Int32} {z_moveMany : Int32} {z_moves : Nat → Int32} {z_hands : Nat → Int32} {z_troubles : Int32} {z_troubleSorts : Nat → Int32} {z_troubleNumbers : Nat → Int32} {z_asked : Nat → Int32} {z_paint : Nat → Int32} {z_leasts : Nat → Int32} {z_isSeen : Nat → Int32} {z_classMany : Int32} {z_types : Nat → Int32} {z_typeCounts : Nat → Int32} {z_typeMany : Int32} {z_text : Nat → Int32} {z_signs : Int32} {z_at : Int32} {z_lacks : Int32} {z_clauses : Int32} {z_begun : Int32} {z_letters : Nat → Int32} {z_firsts : Nat → Int32} {z_seconds : Nat → Int32} {z_aside : Nat → Int32} {z_sorts : Nat → Int32} {z_sizes : Nat → Int32} {z_items : Nat → Int64} {K : Int32 → Int32 → Option (Int32 × (Nat → Int32))} {res : Int32 × (Nat → Int32)} (X : CX RX10 cX10_sizeOf 5 (some .int) p s m args meth c) (E : EX G A s)
    (hK : ∀ (l3 : Int32) (l4 : Int32) (H : Heap) (locs : List Loc) (ls : Array Slot), IN A G (mw G h z_thrown z_s z_kept z_isKept z_moveMany z_moves z_hands z_troubles z_troubleSorts z_troubleNumbers z_asked z_paint z_leasts z_isSeen z_classMany z_types z_typeCounts z_typeMany z_text z_signs z_at z_lacks z_clauses z_begun z_letters z_firsts z_seconds z_aside z_sorts z_sizes z_items) s H locs → lv_has ls 5 [(0, .ref (h 0)), (1, .int l1), (2, .int l2), (3, .int l3), (4, .int l4)] → K l3 l4 = some res → W p l e rm_X10_sizeOf s m args below meth c H locs 0 0 (MQ below (QX G A (mw G h z_thrown z_s z_kept z_isKept z_moveMany z_moves z_hands z_troubles z_troubleSorts z_troubleNumbers z_asked res.2 z_leasts z_isSeen z_classMany z_types z_typeCounts z_typeMany z_text z_signs z_at z_lacks z_clauses z_begun z_letters z_firsts z_seconds z_aside z_sorts z_sizes z_items) (some (.int res.1))) args s 0 0 A) (F0 m 53 ls [])) :
    ∀ {k : Nat} {l3 : Int32} {l4 : Int32} {H : Heap} {locs : List Loc} {ls : Array Slot}, IN A G (mw G h z_thrown z_s z_kept z_isKept z_moveMany z_moves z_hands z_troubles z_troubleSorts z_troubleNumbers z_asked z_paint z_leasts z_isSeen z_classMany z_types z_typeCounts z_typeMany z_text z_signs z_at z_lacks z_clauses z_begun z_letters z_firsts z_seconds z_aside z_sorts z_sizes z_items) s H locs → lv_has ls 5 [(0, .ref (h 0)), (1, .int l1), (2, .int l2), (3, .int l3), (4, .int l4)] → f_X10_sizeOf_L10 l1 l2 z_s z_moveMany z_moves z_hands z_paint K k l3 l4 = some res → W p l e rm_X10_sizeOf s m args below meth c H locs 0 0 (MQ below (QX G A (mw G h z_thrown z_s z_kept z_isKept z_moveMany z_moves z_hands z_troubles z_troubleSorts z_troubleNumbers z_asked res.2 z_leasts z_isSeen z_classMany z_types z_typeCounts z_typeMany z_text z_signs z_at z_lacks z_clauses z_begun z_letters z_firsts z_seconds z_aside z_sorts z_sizes z_items) (some (.int res.1))) args s 0 0 A) (F0 m 10 ls []) := by
  obtain ⟨hx, hb, hml, hown, hts, hr, hlk⟩ := id X
  intro k
  induction k with
  | zero => intro l3 l4 H locs ls hI hl hf; exact nomatch (show none = some res from hf)
  | succ k ih =>
    intro l3 l4 H locs ls hI hl hf
    rw [f_X10_sizeOf_L10] at hf
    refine lv_iload (pc := 10) hx hb dX10_sizeOf_10 (lv_at hl 4 rfl) ?_
    refine lv_aload_n (pc := 12) hx hb dX10_sizeOf_12 rfl (lv_at hl 0 rfl) ?_
    refine x_get (pc := 13) X E hI inX10 0 rfl rfl 4 (by decide) tw_3_233 rfl dX10_sizeOf_13 ?_
    refine lv_icmp_ge (pc := 16) (tgt := 53) hx hb dX10_sizeOf_16 (by decide) (fun c1 => ?_) (fun c1 => ?_)
    · have hf := q_ip c1 hf
      exact hK _ _ _ _ _ hI (lv_sub hl [0, 1, 2, 3, 4] rfl) hf
    · have hf := q_in c1 hf
      refine lv_iload_n (pc := 19) hx hb dX10_sizeOf_19 rfl (lv_at hl 3 rfl) ?_
      refine lv_aload_n (pc := 20) hx hb dX10_sizeOf_20 rfl (lv_at hl 0 rfl) ?_
      refine lv_iload (pc := 21) hx hb dX10_sizeOf_21 (lv_at hl 4 rfl) ?_
      refine lv_iload_n (pc := 23) hx hb dX10_sizeOf_23 rfl (lv_at hl 1 rfl) ?_
      obtain ⟨t2, e2, hf⟩ := q_ob hf
      refine x_cVs (pc := 24) (st1 := [.int t2, .int l3]) (w1 := (mw G h z_thrown z_s z_kept z_isKept z_moveMany z_moves z_hands z_troubles z_troubleSorts z_troubleNumbers z_asked z_paint z_leasts z_isSeen z_classMany z_types z_typeCounts z_typeMany z_text z_signs z_at z_lacks z_clauses z_begun z_letters z_firsts z_seconds z_aside z_sorts z_sizes z_items)) X E hI (c_X10_counts l G h e2) kv_X10_132 hd_X10_counts ⟨rfl, rfl⟩ (by decide) 0 rfl rfl rfl rfl hl.1 rfl (Nat.le_of_ble_eq_true rfl) dX10_sizeOf_24 ⟨Nat.le_of_ble_eq_true rfl, Nat.le_of_ble_eq_true rfl⟩ rfl (fun H locs hI => ?_)
      refine lv_if_eq (pc := 27) (tgt := 44) hx hb dX10_sizeOf_27 (by decide) (fun c3 => ?_) (fun c3 => ?_)
      · have hf := q_ip c3 hf
        refine lv_iconst (pc := 44) (v := 0) hx hb dX10_sizeOf_44 (by decide) ?_
        refine lv_iadd (pc := 45) hx hb dX10_sizeOf_45 ?_
        refine lv_istore_n (pc := 46) (lv' := [(3, .int (l3 + 0)), (0, .ref (h 0)), (1, .int l1), (2, .int l2), (4, .int l4)]) hx hb dX10_sizeOf_46 rfl hl (by decide) rfl (fun ls hl => ?_)
        refine lv_iinc (pc := 47) (v := l4 + 1) (lv' := [(4, .int (l4 + 1)), (3, .int (l3 + 0)), (0, .ref (h 0)), (1, .int l1), (2, .int l2)]) hx hb dX10_sizeOf_47 hl (k := 4) rfl rfl (by decide) rfl (fun ls hl => ?_)
        refine lv_goto (pc := 50) (tgt := 10) hx hb dX10_sizeOf_50 (by decide) ?_
        exact ih hI (lv_sub hl [2, 3, 4, 1, 0] rfl) hf
      · have hf := q_in c3 hf
        refine lv_aload_n (pc := 30) hx hb dX10_sizeOf_30 rfl (lv_at hl 0 rfl) ?_
        refine lv_iload (pc := 31) hx hb dX10_sizeOf_31 (lv_at hl 4 rfl) ?_
        obtain ⟨t4, e4, hf⟩ := q_ob hf
        refine x_cVs (pc := 33) (st1 := [.int t4, .int l3]) (w1 := (mw G h z_thrown z_s z_kept z_isKept z_moveMany z_moves z_hands z_troubles z_troubleSorts z_troubleNumbers z_asked z_paint z_leasts z_isSeen z_classMany z_types z_typeCounts z_typeMany z_text z_signs z_at z_lacks z_clauses z_begun z_letters z_firsts z_seconds z_aside z_sorts z_sizes z_items)) X E hI (c_X10_becomes l G h e4) kv_X10_172 hd_X10_becomes ⟨rfl, rfl⟩ (by decide) 0 rfl rfl rfl rfl hl.1 rfl (Nat.le_of_ble_eq_true rfl) dX10_sizeOf_33 ⟨Nat.le_of_ble_eq_true rfl, Nat.le_of_ble_eq_true rfl⟩ rfl (fun H locs hI => ?_)
        refine lv_iload_n (pc := 36) hx hb dX10_sizeOf_36 rfl (lv_at hl 2 rfl) ?_
        refine lv_icmp_ne (pc := 37) (tgt := 44) hx hb dX10_sizeOf_37 (by decide) (fun c5 => ?_) (fun c5 => ?_)
        · have hf := q_in c5 hf
          refine lv_iconst (pc := 44) (v := 0) hx hb dX10_sizeOf_44 (by decide) ?_
          refine lv_iadd (pc := 45) hx hb dX10_sizeOf_45 ?_
          refine lv_istore_n (pc := 46) (lv' := [(3, .int (l3 + 0)), (0, .ref (h 0)), (1, .int l1), (2, .int l2), (4, .int l4)]) hx hb dX10_sizeOf_46 rfl hl (by decide) rfl (fun ls hl => ?_)
          refine lv_iinc (pc := 47) (v := l4 + 1) (lv' := [(4, .int (l4 + 1)), (3, .int (l3 + 0)), (0, .ref (h 0)), (1, .int l1), (2, .int l2)]) hx hb dX10_sizeOf_47 hl (k := 4) rfl rfl (by decide) rfl (fun ls hl => ?_)
          refine lv_goto (pc := 50) (tgt := 10) hx hb dX10_sizeOf_50 (by decide) ?_
          exact ih hI (lv_sub hl [2, 3, 4, 1, 0] rfl) hf
        · have hf := q_ip c5 hf
          refine lv_iconst (pc := 40) (v := 1) hx hb dX10_sizeOf_40 (by decide) ?_
          refine lv_goto (pc := 41) (tgt := 45) hx hb dX10_sizeOf_41 (by decide) ?_
          refine lv_iadd (pc := 45) hx hb dX10_sizeOf_45 ?_
          refine lv_istore_n (pc := 46) (lv' := [(3, .int (l3 + 1)), (0, .ref (h 0)), (1, .int l1), (2, .int l2), (4, .int l4)]) hx hb dX10_sizeOf_46 rfl hl (by decide) rfl (fun ls hl => ?_)
          refine lv_iinc (pc := 47) (v := l4 + 1) (lv' := [(4, .int (l4 + 1)), (3, .int (l3 + 1)), (0, .ref (h 0)), (1, .int l1), (2, .int l2)]) hx hb dX10_sizeOf_47 hl (k := 4) rfl rfl (by decide) rfl (fun ls hl => ?_)
          refine lv_goto (pc := 50) (tgt := 10) hx hb dX10_sizeOf_50 (by decide) ?_
          exact ih hI (lv_sub hl [2, 3, 4, 1, 0] rfl) hf

set_option maxHeartbeats 4000000 in
set_option maxRecDepth 100000 in
theorem c_X10_sizeOf (l : Launch) (G : GX) (h : Nat → Nat) {l1 : Int32} {l2 : Int32} {z_s : Nat → Int32} {z_moveMany : Int32} {z_moves : Nat → Int32} {z_hands : Nat → Int32} {z_paint : Nat → Int32} {z_thrown : Int32} {z_kept : Nat → Int32} {z_isKept : Int32} {z_troubles : Int32} {z_troubleSorts : Nat → Int32} {z_troubleNumbers : Nat → Int32} {z_asked : Nat → Int32} {z_leasts : Nat → Int32} {z_isSeen : Nat → Int32} {z_classMany : Int32} {z_types : Nat → Int32} {z_typeCounts : Nat → Int32} {z_typeMany : Int32} {z_text : Nat → Int32} {z_signs : Int32} {z_at : Int32} {z_lacks : Int32} {z_clauses : Int32} {z_begun : Int32} {z_letters : Nat → Int32} {z_firsts : Nat → Int32} {z_seconds : Nat → Int32} {z_aside : Nat → Int32} {z_sorts : Nat → Int32} {z_sizes : Nat → Int32} {z_items : Nat → Int64} {res : Int32 × (Nat → Int32)} (hf : f_X10_sizeOf l1 l2 z_s z_moveMany z_moves z_hands z_paint = some res) : MX l yX10_sizeOf cX10_sizeOf 5 (some .int) rm_X10_sizeOf G (mw G h z_thrown z_s z_kept z_isKept z_moveMany z_moves z_hands z_troubles z_troubleSorts z_troubleNumbers z_asked z_paint z_leasts z_isSeen z_classMany z_types z_typeCounts z_typeMany z_text z_signs z_at z_lacks z_clauses z_begun z_letters z_firsts z_seconds z_aside z_sorts z_sizes z_items) [.ref (h 0), .int l1, .int l2] (mw G h z_thrown z_s z_kept z_isKept z_moveMany z_moves z_hands z_troubles z_troubleSorts z_troubleNumbers z_asked res.2 z_leasts z_isSeen z_classMany z_types z_typeCounts z_typeMany z_text z_signs z_at z_lacks z_clauses z_begun z_letters z_firsts z_seconds z_aside z_sorts z_sizes z_items) (some (.int res.1)) 0 0 := by
  refine MX.of (plainFor_of_name (by decide)) (Nat.le_of_ble_eq_true rfl) ?_
  intro p e s m below meth c A X E hI ls hl
  obtain ⟨hx, hb, hml, hown, hts, hr, hlk⟩ := id X
  have hl : lv_has ls 5 [(0, .ref (h 0)), (1, .int l1), (2, .int l2)] := hl
  unfold f_X10_sizeOf at hf
  refine lv_aload_n (pc := 0) hx hb dX10_sizeOf_0 rfl (lv_at hl 0 rfl) ?_
  refine lv_iload_n (pc := 1) hx hb dX10_sizeOf_1 rfl (lv_at hl 2 rfl) ?_
  obtain ⟨t1, e1, hf⟩ := q_ob hf
  refine x_cVs (pc := 2) (st1 := []) (w1 := (mw G h z_thrown z_s z_kept z_isKept z_moveMany z_moves z_hands z_troubles z_troubleSorts z_troubleNumbers z_asked t1 z_leasts z_isSeen z_classMany z_types z_typeCounts z_typeMany z_text z_signs z_at z_lacks z_clauses z_begun z_letters z_firsts z_seconds z_aside z_sorts z_sizes z_items)) X E hI (c_X10_paints l G h e1) kv_X10_168 hd_X10_paints ⟨rfl, rfl⟩ (by decide) 0 rfl rfl rfl rfl hl.1 rfl (Nat.le_of_ble_eq_true rfl) dX10_sizeOf_2 ⟨Nat.le_of_ble_eq_true rfl, Nat.le_of_ble_eq_true rfl⟩ rfl (fun H locs hI => ?_)
  refine lv_iconst (pc := 5) (v := 0) hx hb dX10_sizeOf_5 (by decide) ?_
  refine lv_istore_n (pc := 6) (lv' := [(3, .int 0), (0, .ref (h 0)), (1, .int l1), (2, .int l2)]) hx hb dX10_sizeOf_6 rfl hl (by decide) rfl (fun ls hl => ?_)
  refine lv_iconst (pc := 7) (v := 0) hx hb dX10_sizeOf_7 (by decide) ?_
  refine lv_istore (pc := 8) (lv' := [(4, .int 0), (3, .int 0), (0, .ref (h 0)), (1, .int l1), (2, .int l2)]) hx hb dX10_sizeOf_8 hl (by decide) rfl (fun ls hl => ?_)
  refine k_X10_sizeOf_L10 X E (fun l3_2 l4_2 H locs ls hI hl hf => ?_) hI (lv_sub hl [2, 3, 4, 1, 0] rfl) hf
  refine lv_aload_n (pc := 53) hx hb dX10_sizeOf_53 rfl (lv_at hl 0 rfl) ?_
  refine lv_iload_n (pc := 54) hx hb dX10_sizeOf_54 rfl (lv_at hl 1 rfl) ?_
  obtain ⟨t3, e3, hf⟩ := q_ob hf
  refine x_cVs (pc := 55) (st1 := [.int t3]) (w1 := (mw G h z_thrown z_s z_kept z_isKept z_moveMany z_moves z_hands z_troubles z_troubleSorts z_troubleNumbers z_asked t1 z_leasts z_isSeen z_classMany z_types z_typeCounts z_typeMany z_text z_signs z_at z_lacks z_clauses z_begun z_letters z_firsts z_seconds z_aside z_sorts z_sizes z_items)) X E hI (c_X10_manyOf l G h e3) kv_X10_180 hd_X10_manyOf ⟨rfl, rfl⟩ (by decide) 0 rfl rfl rfl rfl hl.1 rfl (Nat.le_of_ble_eq_true rfl) dX10_sizeOf_55 ⟨Nat.le_of_ble_eq_true rfl, Nat.le_of_ble_eq_true rfl⟩ rfl (fun H locs hI => ?_)
  refine lv_iload_n (pc := 58) hx hb dX10_sizeOf_58 rfl (lv_at hl 3 rfl) ?_
  obtain ⟨t4, e4, hf⟩ := q_ob hf
  refine x_idiv (pc := 59) X e4 dX10_sizeOf_59 ?_
  obtain rfl := Option.some.inj hf
  exact x_iret X hI dX10_sizeOf_60

abbrev rm_X10_classes : Room := { frames := 2, cells := 0, slots := 0, locals := 45 }
set_option maxHeartbeats 4000000 in
set_option maxRecDepth 100000 in
theorem k_X10_classes_L12 {p : Program} {l : Launch} {e : Env} {s : State} {m : MethodId} {args : Array Value} {below : List Frame} {meth : Method} {c : Code} {A : Nat → Prop} {G : GX} {h : Nat → Nat} {l1 : Int32} {l2 : Int32} {z_thrown : Int32} {z_s : Nat → Int32} {z_kept : Nat → Int32} {z_isKept : Int32} {z_moveMany : Int32} {z_moves : Nat → Int32} {z_hands : Nat → Int32} {z_troubles : Int32} {z_troubleSorts : Nat → Int32} {z_troubleNumbers : Nat → Int32} {z_asked : Nat → Int32} {z_paint : Nat → Int32} {z_leasts : Nat → Int32} {z_classMany : Int32} {z_types : Nat → Int32} {z_typeCounts : Nat → Int32} {z_typeMany : Int32} {z_text : Nat → Int32} {z_signs : Int32} {z_at : Int32} {z_lacks : Int32} {z_clauses : Int32} {z_begun : Int32} {z_letters : Nat → Int32} {z_firsts : Nat → Int32} {z_seconds : Nat → Int32} {z_aside : Nat → Int32} {z_sorts : Nat → Int32} {z_sizes : Nat → Int32} {z_items : Nat → Int64} {K : Int32 → (Nat → Int32) → Option ((Nat → Int32) × (Nat → Int32) × (Nat → Int32) × Int32)} {res : (Nat → Int32) × (Nat → Int32) × (Nat → Int32) × Int32} (X : CX RX10 cX10_classes 5 none p s m args meth c) (E : EX G A s)
    (hK : ∀ (l3 : Int32) (z_isSeen : (Nat → Int32)) (H : Heap) (locs : List Loc) (ls : Array Slot), IN A G (mw G h z_thrown z_s z_kept z_isKept z_moveMany z_moves z_hands z_troubles z_troubleSorts z_troubleNumbers z_asked z_paint z_leasts z_isSeen z_classMany z_types z_typeCounts z_typeMany z_text z_signs z_at z_lacks z_clauses z_begun z_letters z_firsts z_seconds z_aside z_sorts z_sizes z_items) s H locs → lv_has ls 5 [(0, .ref (h 0)), (1, .int l1), (2, .int l2), (3, .int l3)] → K l3 z_isSeen = some res → W p l e rm_X10_classes s m args below meth c H locs 0 0 (MQ below (QX G A (mw G h z_thrown z_s z_kept z_isKept z_moveMany z_moves z_hands z_troubles z_troubleSorts z_troubleNumbers z_asked res.1 res.2.1 res.2.2.1 res.2.2.2 z_types z_typeCounts z_typeMany z_text z_signs z_at z_lacks z_clauses z_begun z_letters z_firsts z_seconds z_aside z_sorts z_sizes z_items) none) args s 0 0 A) (F0 m 30 ls [])) :
    ∀ {k : Nat} {l3 : Int32} {z_isSeen : (Nat → Int32)} {H : Heap} {locs : List Loc} {ls : Array Slot}, IN A G (mw G h z_thrown z_s z_kept z_isKept z_moveMany z_moves z_hands z_troubles z_troubleSorts z_troubleNumbers z_asked z_paint z_leasts z_isSeen z_classMany z_types z_typeCounts z_typeMany z_text z_signs z_at z_lacks z_clauses z_begun z_letters z_firsts z_seconds z_aside z_sorts z_sizes z_items) s H locs → lv_has ls 5 [(0, .ref (h 0)), (1, .int l1), (2, .int l2), (3, .int l3)] → f_X10_classes_L12 l1 l2 K k l3 z_isSeen = some res → W p l e rm_X10_classes s m args below meth c H locs 0 0 (MQ below (QX G A (mw G h z_thrown z_s z_kept z_isKept z_moveMany z_moves z_hands z_troubles z_troubleSorts z_troubleNumbers z_asked res.1 res.2.1 res.2.2.1 res.2.2.2 z_types z_typeCounts z_typeMany z_text z_signs z_at z_lacks z_clauses z_begun z_letters z_firsts z_seconds z_aside z_sorts z_sizes z_items) none) args s 0 0 A) (F0 m 12 ls []) := by
  obtain ⟨hx, hb, hml, hown, hts, hr, hlk⟩ := id X
  intro k
  induction k with
  | zero => intro l3 z_isSeen H locs ls hI hl hf; exact nomatch (show none = some res from hf)
  | succ k ih =>
    intro l3 z_isSeen H locs ls hI hl hf
    rw [f_X10_classes_L12] at hf
    refine lv_iload_n (pc := 12) hx hb dX10_classes_12 rfl (lv_at hl 3 rfl) ?_
    refine lv_iload_n (pc := 13) hx hb dX10_classes_13 rfl (lv_at hl 2 rfl) ?_
    refine lv_icmp_ge (pc := 14) (tgt := 30) hx hb dX10_classes_14 (by decide) (fun c1 => ?_) (fun c1 => ?_)
    · have hf := q_ip c1 hf
      exact hK _ _ _ _ _ hI (lv_sub hl [0, 1, 2, 3] rfl) hf
    · have hf := q_in c1 hf
      refine lv_aload_n (pc := 17) hx hb dX10_classes_17 rfl (lv_at hl 0 rfl) ?_
      refine x_get (pc := 18) X E hI inX10 0 rfl rfl 13 (by decide) tw_4_2 rfl dX10_classes_18 ?_
      refine lv_iload_n (pc := 21) hx hb dX10_classes_21 rfl (lv_at hl 3 rfl) ?_
      refine lv_iconst (pc := 22) (v := 0) hx hb dX10_classes_22 (by decide) ?_
      obtain ⟨t2, e2, hf⟩ := q_ob hf
      refine x_zast (pc := 23) (w' := (mw G h z_thrown z_s z_kept z_isKept z_moveMany z_moves z_hands z_troubles z_troubleSorts z_troubleNumbers z_asked z_paint z_leasts t2 z_classMany z_types z_typeCounts z_typeMany z_text z_signs z_at z_lacks z_clauses z_begun z_letters z_firsts z_seconds z_aside z_sorts z_sizes z_items)) X E hI 10 rfl e2 rfl dX10_classes_23 (fun H locs hI => ?_)
      refine lv_iinc (pc := 24) (v := l3 + 1) (lv' := [(3, .int (l3 + 1)), (0, .ref (h 0)), (1, .int l1), (2, .int l2)]) hx hb dX10_classes_24 hl (k := 3) rfl rfl (by decide) rfl (fun ls hl => ?_)
      refine lv_goto (pc := 27) (tgt := 12) hx hb dX10_classes_27 (by decide) ?_
      exact ih hI (lv_sub hl [1, 2, 3, 0] rfl) hf

set_option maxHeartbeats 4000000 in
set_option maxRecDepth 100000 in
theorem k_X10_classes_L77 {p : Program} {l : Launch} {e : Env} {s : State} {m : MethodId} {args : Array Value} {below : List Frame} {meth : Method} {c : Code} {A : Nat → Prop} {G : GX} {h : Nat → Nat} {l1 : Int32} {l2 : Int32} {l3 : Int32} {z_thrown : Int32} {z_s : Nat → Int32} {z_kept : Nat → Int32} {z_isKept : Int32} {z_moveMany : Int32} {z_moves : Nat → Int32} {z_hands : Nat → Int32} {z_troubles : Int32} {z_troubleSorts : Nat → Int32} {z_troubleNumbers : Nat → Int32} {z_asked : Nat → Int32} {z_paint : Nat → Int32} {z_leasts : Nat → Int32} {z_classMany : Int32} {z_types : Nat → Int32} {z_typeCounts : Nat → Int32} {z_typeMany : Int32} {z_text : Nat → Int32} {z_signs : Int32} {z_at : Int32} {z_lacks : Int32} {z_clauses : Int32} {z_begun : Int32} {z_letters : Nat → Int32} {z_firsts : Nat → Int32} {z_seconds : Nat → Int32} {z_aside : Nat → Int32} {z_sorts : Nat → Int32} {z_sizes : Nat → Int32} {z_items : Nat → Int64} {K : Int32 → (Nat → Int32) → Option ((Nat → Int32) × (Nat → Int32) × (Nat → Int32) × Int32)} {res : (Nat → Int32) × (Nat → Int32) × (Nat → Int32) × Int32} (X : CX RX10 cX10_classes 5 none p s m args meth c) (E : EX G A s)
    (hK : ∀ (l4 : Int32) (z_isSeen : (Nat → Int32)) (H : Heap) (locs : List Loc) (ls : Array Slot), IN A G (mw G h z_thrown z_s z_kept z_isKept z_moveMany z_moves z_hands z_troubles z_troubleSorts z_troubleNumbers z_asked z_paint z_leasts z_isSeen z_classMany z_types z_typeCounts z_typeMany z_text z_signs z_at z_lacks z_clauses z_begun z_letters z_firsts z_seconds z_aside z_sorts z_sizes z_items) s H locs → lv_has ls 5 [(0, .ref (h 0)), (1, .int l1), (2, .int l2), (3, .int l3), (4, .int l4)] → K l4 z_isSeen = some res → W p l e rm_X10_classes s m args below meth c H locs 0 0 (MQ below (QX G A (mw G h z_thrown z_s z_kept z_isKept z_moveMany z_moves z_hands z_troubles z_troubleSorts z_troubleNumbers z_asked res.1 res.2.1 res.2.2.1 res.2.2.2 z_types z_typeCounts z_typeMany z_text z_signs z_at z_lacks z_clauses z_begun z_letters z_firsts z_seconds z_aside z_sorts z_sizes z_items) none) args s 0 0 A) (F0 m 114 ls [])) :
    ∀ {k : Nat} {l4 : Int32} {z_isSeen : (Nat → Int32)} {H : Heap} {locs : List Loc} {ls : Array Slot}, IN A G (mw G h z_thrown z_s z_kept z_isKept z_moveMany z_moves z_hands z_troubles z_troubleSorts z_troubleNumbers z_asked z_paint z_leasts z_isSeen z_classMany z_types z_typeCounts z_typeMany z_text z_signs z_at z_lacks z_clauses z_begun z_letters z_firsts z_seconds z_aside z_sorts z_sizes z_items) s H locs → lv_has ls 5 [(0, .ref (h 0)), (1, .int l1), (2, .int l2), (3, .int l3), (4, .int l4)] → f_X10_classes_L77 l1 l2 l3 z_s z_moveMany z_moves z_hands z_paint K k l4 z_isSeen = some res → W p l e rm_X10_classes s m args below meth c H locs 0 0 (MQ below (QX G A (mw G h z_thrown z_s z_kept z_isKept z_moveMany z_moves z_hands z_troubles z_troubleSorts z_troubleNumbers z_asked res.1 res.2.1 res.2.2.1 res.2.2.2 z_types z_typeCounts z_typeMany z_text z_signs z_at z_lacks z_clauses z_begun z_letters z_firsts z_seconds z_aside z_sorts z_sizes z_items) none) args s 0 0 A) (F0 m 77 ls []) := by
  obtain ⟨hx, hb, hml, hown, hts, hr, hlk⟩ := id X
  intro k
  induction k with
  | zero => intro l4 z_isSeen H locs ls hI hl hf; exact nomatch (show none = some res from hf)
  | succ k ih =>
    intro l4 z_isSeen H locs ls hI hl hf
    rw [f_X10_classes_L77] at hf
    refine lv_iload (pc := 77) hx hb dX10_classes_77 (lv_at hl 4 rfl) ?_
    refine lv_aload_n (pc := 79) hx hb dX10_classes_79 rfl (lv_at hl 0 rfl) ?_
    refine x_get (pc := 80) X E hI inX10 0 rfl rfl 4 (by decide) tw_3_233 rfl dX10_classes_80 ?_
    refine lv_icmp_ge (pc := 83) (tgt := 114) hx hb dX10_classes_83 (by decide) (fun c1 => ?_) (fun c1 => ?_)
    · have hf := q_ip c1 hf
      exact hK _ _ _ _ _ hI (lv_sub hl [0, 1, 2, 3, 4] rfl) hf
    · have hf := q_in c1 hf
      refine lv_aload_n (pc := 86) hx hb dX10_classes_86 rfl (lv_at hl 0 rfl) ?_
      refine lv_iload (pc := 87) hx hb dX10_classes_87 (lv_at hl 4 rfl) ?_
      refine lv_iload_n (pc := 89) hx hb dX10_classes_89 rfl (lv_at hl 1 rfl) ?_
      obtain ⟨t2, e2, hf⟩ := q_ob hf
      refine x_cVs (pc := 90) (st1 := [.int t2]) (w1 := (mw G h z_thrown z_s z_kept z_isKept z_moveMany z_moves z_hands z_troubles z_troubleSorts z_troubleNumbers z_asked z_paint z_leasts z_isSeen z_classMany z_types z_typeCounts z_typeMany z_text z_signs z_at z_lacks z_clauses z_begun z_letters z_firsts z_seconds z_aside z_sorts z_sizes z_items)) X E hI (c_X10_counts l G h e2) kv_X10_132 hd_X10_counts ⟨rfl, rfl⟩ (by decide) 0 rfl rfl rfl rfl hl.1 rfl (Nat.le_of_ble_eq_true rfl) dX10_classes_90 ⟨Nat.le_of_ble_eq_true rfl, Nat.le_of_ble_eq_true rfl⟩ rfl (fun H locs hI => ?_)
      refine lv_if_eq (pc := 93) (tgt := 108) hx hb dX10_classes_93 (by decide) (fun c3 => ?_) (fun c3 => ?_)
      · have hf := q_ip c3 hf
        refine lv_iinc (pc := 108) (v := l4 + 1) (lv' := [(4, .int (l4 + 1)), (0, .ref (h 0)), (1, .int l1), (2, .int l2), (3, .int l3)]) hx hb dX10_classes_108 hl (k := 4) rfl rfl (by decide) rfl (fun ls hl => ?_)
        refine lv_goto (pc := 111) (tgt := 77) hx hb dX10_classes_111 (by decide) ?_
        exact ih hI (lv_sub hl [1, 2, 3, 4, 0] rfl) hf
      · have hf := q_in c3 hf
        refine lv_aload_n (pc := 96) hx hb dX10_classes_96 rfl (lv_at hl 0 rfl) ?_
        refine x_get (pc := 97) X E hI inX10 0 rfl rfl 13 (by decide) tw_4_2 rfl dX10_classes_97 ?_
        refine lv_aload_n (pc := 100) hx hb dX10_classes_100 rfl (lv_at hl 0 rfl) ?_
        refine lv_iload (pc := 101) hx hb dX10_classes_101 (lv_at hl 4 rfl) ?_
        obtain ⟨t4, e4, hf⟩ := q_ob hf
        refine x_cVs (pc := 103) (st1 := [.int t4, .ref (h 10)]) (w1 := (mw G h z_thrown z_s z_kept z_isKept z_moveMany z_moves z_hands z_troubles z_troubleSorts z_troubleNumbers z_asked z_paint z_leasts z_isSeen z_classMany z_types z_typeCounts z_typeMany z_text z_signs z_at z_lacks z_clauses z_begun z_letters z_firsts z_seconds z_aside z_sorts z_sizes z_items)) X E hI (c_X10_becomes l G h e4) kv_X10_172 hd_X10_becomes ⟨rfl, rfl⟩ (by decide) 0 rfl rfl rfl rfl hl.1 rfl (Nat.le_of_ble_eq_true rfl) dX10_classes_103 ⟨Nat.le_of_ble_eq_true rfl, Nat.le_of_ble_eq_true rfl⟩ rfl (fun H locs hI => ?_)
        refine lv_iconst (pc := 106) (v := 1) hx hb dX10_classes_106 (by decide) ?_
        obtain ⟨t5, e5, hf⟩ := q_ob hf
        refine x_zast (pc := 107) (w' := (mw G h z_thrown z_s z_kept z_isKept z_moveMany z_moves z_hands z_troubles z_troubleSorts z_troubleNumbers z_asked z_paint z_leasts t5 z_classMany z_types z_typeCounts z_typeMany z_text z_signs z_at z_lacks z_clauses z_begun z_letters z_firsts z_seconds z_aside z_sorts z_sizes z_items)) X E hI 10 rfl e5 rfl dX10_classes_107 (fun H locs hI => ?_)
        refine lv_iinc (pc := 108) (v := l4 + 1) (lv' := [(4, .int (l4 + 1)), (0, .ref (h 0)), (1, .int l1), (2, .int l2), (3, .int l3)]) hx hb dX10_classes_108 hl (k := 4) rfl rfl (by decide) rfl (fun ls hl => ?_)
        refine lv_goto (pc := 111) (tgt := 77) hx hb dX10_classes_111 (by decide) ?_
        exact ih hI (lv_sub hl [1, 2, 3, 4, 0] rfl) hf

set_option maxHeartbeats 4000000 in
set_option maxRecDepth 100000 in
theorem k_X10_classes_L32 {p : Program} {l : Launch} {e : Env} {s : State} {m : MethodId} {args : Array Value} {below : List Frame} {meth : Method} {c : Code} {A : Nat → Prop} {G : GX} {h : Nat → Nat} {l1 : Int32} {l2 : Int32} {z_thrown : Int32} {z_s : Nat → Int32} {z_kept : Nat → Int32} {z_isKept : Int32} {z_moveMany : Int32} {z_moves : Nat → Int32} {z_hands : Nat → Int32} {z_troubles : Int32} {z_troubleSorts : Nat → Int32} {z_troubleNumbers : Nat → Int32} {z_asked : Nat → Int32} {z_types : Nat → Int32} {z_typeCounts : Nat → Int32} {z_typeMany : Int32} {z_text : Nat → Int32} {z_signs : Int32} {z_at : Int32} {z_lacks : Int32} {z_clauses : Int32} {z_begun : Int32} {z_letters : Nat → Int32} {z_firsts : Nat → Int32} {z_seconds : Nat → Int32} {z_aside : Nat → Int32} {z_sorts : Nat → Int32} {z_sizes : Nat → Int32} {z_items : Nat → Int64} {K : Int32 → (Nat → Int32) → (Nat → Int32) → (Nat → Int32) → Int32 → Option ((Nat → Int32) × (Nat → Int32) × (Nat → Int32) × Int32)} {res : (Nat → Int32) × (Nat → Int32) × (Nat → Int32) × Int32} (X : CX RX10 cX10_classes 5 none p s m args meth c) (E : EX G A s)
    (hK : ∀ (l3 : Int32) (z_paint : (Nat → Int32)) (z_leasts : (Nat → Int32)) (z_isSeen : (Nat → Int32)) (z_classMany : Int32) (H : Heap) (locs : List Loc) (ls : Array Slot), IN A G (mw G h z_thrown z_s z_kept z_isKept z_moveMany z_moves z_hands z_troubles z_troubleSorts z_troubleNumbers z_asked z_paint z_leasts z_isSeen z_classMany z_types z_typeCounts z_typeMany z_text z_signs z_at z_lacks z_clauses z_begun z_letters z_firsts z_seconds z_aside z_sorts z_sizes z_items) s H locs → lv_has ls 5 [(0, .ref (h 0)), (1, .int l1), (2, .int l2), (3, .int l3)] → K l3 z_paint z_leasts z_isSeen z_classMany = some res → W p l e rm_X10_classes s m args below meth c H locs 0 0 (MQ below (QX G A (mw G h z_thrown z_s z_kept z_isKept z_moveMany z_moves z_hands z_troubles z_troubleSorts z_troubleNumbers z_asked res.1 res.2.1 res.2.2.1 res.2.2.2 z_types z_typeCounts z_typeMany z_text z_signs z_at z_lacks z_clauses z_begun z_letters z_firsts z_seconds z_aside z_sorts z_sizes z_items) none) args s 0 0 A) (F0 m 120 ls [])) :
    ∀ {k : Nat} {l3 : Int32} {z_paint : (Nat → Int32)} {z_leasts : (Nat → Int32)} {z_isSeen : (Nat → Int32)} {z_classMany : Int32} {H : Heap} {locs : List Loc} {ls : Array Slot}, IN A G (mw G h z_thrown z_s z_kept z_isKept z_moveMany z_moves z_hands z_troubles z_troubleSorts z_troubleNumbers z_asked z_paint z_leasts z_isSeen z_classMany z_types z_typeCounts z_typeMany z_text z_signs z_at z_lacks z_clauses z_begun z_letters z_firsts z_seconds z_aside z_sorts z_sizes z_items) s H locs → lv_has ls 5 [(0, .ref (h 0)), (1, .int l1), (2, .int l2), (3, .int l3)] → f_X10_classes_L32 l1 l2 z_s z_moveMany z_moves z_hands K k l3 z_paint z_leasts z_isSeen z_classMany = some res → W p l e rm_X10_classes s m args below meth c H locs 0 0 (MQ below (QX G A (mw G h z_thrown z_s z_kept z_isKept z_moveMany z_moves z_hands z_troubles z_troubleSorts z_troubleNumbers z_asked res.1 res.2.1 res.2.2.1 res.2.2.2 z_types z_typeCounts z_typeMany z_text z_signs z_at z_lacks z_clauses z_begun z_letters z_firsts z_seconds z_aside z_sorts z_sizes z_items) none) args s 0 0 A) (F0 m 32 ls []) := by
  obtain ⟨hx, hb, hml, hown, hts, hr, hlk⟩ := id X
  intro k
  induction k with
  | zero => intro l3 z_paint z_leasts z_isSeen z_classMany H locs ls hI hl hf; exact nomatch (show none = some res from hf)
  | succ k ih =>
    intro l3 z_paint z_leasts z_isSeen z_classMany H locs ls hI hl hf
    rw [f_X10_classes_L32] at hf
    refine lv_iload_n (pc := 32) hx hb dX10_classes_32 rfl (lv_at hl 3 rfl) ?_
    refine lv_iload_n (pc := 33) hx hb dX10_classes_33 rfl (lv_at hl 2 rfl) ?_
    refine lv_icmp_ge (pc := 34) (tgt := 120) hx hb dX10_classes_34 (by decide) (fun c1 => ?_) (fun c1 => ?_)
    · have hf := q_ip c1 hf
      exact hK _ _ _ _ _ _ _ _ hI (lv_sub hl [0, 1, 2, 3] rfl) hf
    · have hf := q_in c1 hf
      refine lv_aload_n (pc := 37) hx hb dX10_classes_37 rfl (lv_at hl 0 rfl) ?_
      refine x_get (pc := 38) X E hI inX10 0 rfl rfl 13 (by decide) tw_4_2 rfl dX10_classes_38 ?_
      refine lv_iload_n (pc := 41) hx hb dX10_classes_41 rfl (lv_at hl 3 rfl) ?_
      obtain ⟨t2, e2, hf⟩ := q_ob hf
      refine x_zald (pc := 42) X E hI 10 rfl e2 dX10_classes_42 ?_
      refine lv_if_eq (pc := 43) (tgt := 49) hx hb dX10_classes_43 (by decide) (fun c3 => ?_) (fun c3 => ?_)
      · have hf := q_ip c3 hf
        refine lv_aload_n (pc := 49) hx hb dX10_classes_49 rfl (lv_at hl 0 rfl) ?_
        refine x_get (pc := 50) X E hI inX10 0 rfl rfl 12 (by decide) tw_4_1 rfl dX10_classes_50 ?_
        refine lv_aload_n (pc := 53) hx hb dX10_classes_53 rfl (lv_at hl 0 rfl) ?_
        refine x_get (pc := 54) X E hI inX10 0 rfl rfl 14 (by decide) tw_4_3 rfl dX10_classes_54 ?_
        refine lv_iload_n (pc := 57) hx hb dX10_classes_57 rfl (lv_at hl 3 rfl) ?_
        obtain ⟨t4, e4, hf⟩ := q_ob hf
        refine x_iast (pc := 58) (w' := (mw G h z_thrown z_s z_kept z_isKept z_moveMany z_moves z_hands z_troubles z_troubleSorts z_troubleNumbers z_asked z_paint t4 z_isSeen z_classMany z_types z_typeCounts z_typeMany z_text z_signs z_at z_lacks z_clauses z_begun z_letters z_firsts z_seconds z_aside z_sorts z_sizes z_items)) X E hI 9 rfl e4 rfl dX10_classes_58 (fun H locs hI => ?_)
        refine lv_aload_n (pc := 59) hx hb dX10_classes_59 rfl (lv_at hl 0 rfl) ?_
        refine lv_dup (pc := 60) hx hb dX10_classes_60 rfl ?_
        refine x_get (pc := 61) X E hI inX10 0 rfl rfl 14 (by decide) tw_4_3 rfl dX10_classes_61 ?_
        refine lv_iconst (pc := 64) (v := 1) hx hb dX10_classes_64 (by decide) ?_
        refine lv_iadd (pc := 65) hx hb dX10_classes_65 ?_
        refine x_put (pc := 66) (w' := (mw G h z_thrown z_s z_kept z_isKept z_moveMany z_moves z_hands z_troubles z_troubleSorts z_troubleNumbers z_asked z_paint t4 z_isSeen (z_classMany + 1) z_types z_typeCounts z_typeMany z_text z_signs z_at z_lacks z_clauses z_begun z_letters z_firsts z_seconds z_aside z_sorts z_sizes z_items)) X E hI inX10 tyX10 tyX10_ok nmX10 0 rfl rfl 14 (by decide) tw_4_3 rfl rfl rfl (Nat.le_of_ble_eq_true rfl) rfl dX10_classes_66 (fun H locs hI => ?_)
        refine lv_aload_n (pc := 69) hx hb dX10_classes_69 rfl (lv_at hl 0 rfl) ?_
        refine lv_iload_n (pc := 70) hx hb dX10_classes_70 rfl (lv_at hl 3 rfl) ?_
        obtain ⟨t5, e5, hf⟩ := q_ob hf
        refine x_cVs (pc := 71) (st1 := []) (w1 := (mw G h z_thrown z_s z_kept z_isKept z_moveMany z_moves z_hands z_troubles z_troubleSorts z_troubleNumbers z_asked t5 t4 z_isSeen (z_classMany + 1) z_types z_typeCounts z_typeMany z_text z_signs z_at z_lacks z_clauses z_begun z_letters z_firsts z_seconds z_aside z_sorts z_sizes z_items)) X E hI (c_X10_paints l G h e5) kv_X10_168 hd_X10_paints ⟨rfl, rfl⟩ (by decide) 0 rfl rfl rfl rfl hl.1 rfl (Nat.le_of_ble_eq_true rfl) dX10_classes_71 ⟨Nat.le_of_ble_eq_true rfl, Nat.le_of_ble_eq_true rfl⟩ rfl (fun H locs hI => ?_)
        refine lv_iconst (pc := 74) (v := 0) hx hb dX10_classes_74 (by decide) ?_
        refine lv_istore (pc := 75) (lv' := [(4, .int 0), (0, .ref (h 0)), (1, .int l1), (2, .int l2), (3, .int l3)]) hx hb dX10_classes_75 hl (by decide) rfl (fun ls hl => ?_)
        refine k_X10_classes_L77 X E (fun l4_6 z_isSeen_6 H locs ls hI hl hf => ?_) hI (lv_sub hl [1, 2, 3, 4, 0] rfl) hf
        refine lv_iinc (pc := 114) (v := l3 + 1) (lv' := [(3, .int (l3 + 1)), (0, .ref (h 0)), (1, .int l1), (2, .int l2), (4, .int l4_6)]) hx hb dX10_classes_114 hl (k := 3) rfl rfl (by decide) rfl (fun ls hl => ?_)
        refine lv_goto (pc := 117) (tgt := 32) hx hb dX10_classes_117 (by decide) ?_
        exact ih hI (lv_sub hl [1, 2, 3, 0] rfl) hf
      · have hf := q_in c3 hf
        refine lv_goto (pc := 46) (tgt := 114) hx hb dX10_classes_46 (by decide) ?_
        refine lv_iinc (pc := 114) (v := l3 + 1) (lv' := [(3, .int (l3 + 1)), (0, .ref (h 0)), (1, .int l1), (2, .int l2)]) hx hb dX10_classes_114 hl (k := 3) rfl rfl (by decide) rfl (fun ls hl => ?_)
        refine lv_goto (pc := 117) (tgt := 32) hx hb dX10_classes_117 (by decide) ?_
        exact ih hI (lv_sub hl [1, 2, 3, 0] rfl) hf

set_option maxHeartbeats 4000000 in
set_option maxRecDepth 100000 in
theorem c_X10_classes (l : Launch) (G : GX) (h : Nat → Nat) {l1 : Int32} {z_s : Nat → Int32} {z_moveMany : Int32} {z_moves : Nat → Int32} {z_hands : Nat → Int32} {z_paint : Nat → Int32} {z_leasts : Nat → Int32} {z_isSeen : Nat → Int32} {z_classMany : Int32} {z_thrown : Int32} {z_kept : Nat → Int32} {z_isKept : Int32} {z_troubles : Int32} {z_troubleSorts : Nat → Int32} {z_troubleNumbers : Nat → Int32} {z_asked : Nat → Int32} {z_types : Nat → Int32} {z_typeCounts : Nat → Int32} {z_typeMany : Int32} {z_text : Nat → Int32} {z_signs : Int32} {z_at : Int32} {z_lacks : Int32} {z_clauses : Int32} {z_begun : Int32} {z_letters : Nat → Int32} {z_firsts : Nat → Int32} {z_seconds : Nat → Int32} {z_aside : Nat → Int32} {z_sorts : Nat → Int32} {z_sizes : Nat → Int32} {z_items : Nat → Int64} {res : (Nat → Int32) × (Nat → Int32) × (Nat → Int32) × Int32} (hf : f_X10_classes l1 z_s z_moveMany z_moves z_hands z_paint z_leasts z_isSeen z_classMany = some res) : MX l yX10_classes cX10_classes 5 none rm_X10_classes G (mw G h z_thrown z_s z_kept z_isKept z_moveMany z_moves z_hands z_troubles z_troubleSorts z_troubleNumbers z_asked z_paint z_leasts z_isSeen z_classMany z_types z_typeCounts z_typeMany z_text z_signs z_at z_lacks z_clauses z_begun z_letters z_firsts z_seconds z_aside z_sorts z_sizes z_items) [.ref (h 0), .int l1] (mw G h z_thrown z_s z_kept z_isKept z_moveMany z_moves z_hands z_troubles z_troubleSorts z_troubleNumbers z_asked res.1 res.2.1 res.2.2.1 res.2.2.2 z_types z_typeCounts z_typeMany z_text z_signs z_at z_lacks z_clauses z_begun z_letters z_firsts z_seconds z_aside z_sorts z_sizes z_items) none 0 0 := by
  refine MX.of (plainFor_of_name (by decide)) (Nat.le_of_ble_eq_true rfl) ?_
  intro p e s m below meth c A X E hI ls hl
  obtain ⟨hx, hb, hml, hown, hts, hr, hlk⟩ := id X
  have hl : lv_has ls 5 [(0, .ref (h 0)), (1, .int l1)] := hl
  unfold f_X10_classes at hf
  refine lv_aload_n (pc := 0) hx hb dX10_classes_0 rfl (lv_at hl 0 rfl) ?_
  refine lv_iconst (pc := 1) (v := 0) hx hb dX10_classes_1 (by decide) ?_
  refine x_put (pc := 2) (w' := (mw G h z_thrown z_s z_kept z_isKept z_moveMany z_moves z_hands z_troubles z_troubleSorts z_troubleNumbers z_asked z_paint z_leasts z_isSeen 0 z_types z_typeCounts z_typeMany z_text z_signs z_at z_lacks z_clauses z_begun z_letters z_firsts z_seconds z_aside z_sorts z_sizes z_items)) X E hI inX10 tyX10 tyX10_ok nmX10 0 rfl rfl 14 (by decide) tw_4_3 rfl rfl rfl (Nat.le_of_ble_eq_true rfl) rfl dX10_classes_2 (fun H locs hI => ?_)
  refine lv_aload_n (pc := 5) hx hb dX10_classes_5 rfl (lv_at hl 0 rfl) ?_
  obtain ⟨t1, e1, hf⟩ := q_ob hf
  refine x_cVs (pc := 6) (st1 := [.int t1]) (w1 := (mw G h z_thrown z_s z_kept z_isKept z_moveMany z_moves z_hands z_troubles z_troubleSorts z_troubleNumbers z_asked z_paint z_leasts z_isSeen 0 z_types z_typeCounts z_typeMany z_text z_signs z_at z_lacks z_clauses z_begun z_letters z_firsts z_seconds z_aside z_sorts z_sizes z_items)) X E hI (c_X10_paintings l G h e1) kv_X10_186 hd_X10_paintings ⟨rfl, rfl⟩ (by decide) 0 rfl rfl rfl rfl hl.1 rfl (Nat.le_of_ble_eq_true rfl) dX10_classes_6 ⟨Nat.le_of_ble_eq_true rfl, Nat.le_of_ble_eq_true rfl⟩ rfl (fun H locs hI => ?_)
  refine lv_istore_n (pc := 9) (lv' := [(2, .int t1), (0, .ref (h 0)), (1, .int l1)]) hx hb dX10_classes_9 rfl hl (by decide) rfl (fun ls hl => ?_)
  refine lv_iconst (pc := 10) (v := 0) hx hb dX10_classes_10 (by decide) ?_
  refine lv_istore_n (pc := 11) (lv' := [(3, .int 0), (2, .int t1), (0, .ref (h 0)), (1, .int l1)]) hx hb dX10_classes_11 rfl hl (by decide) rfl (fun ls hl => ?_)
  refine k_X10_classes_L12 X E (fun l3_2 z_isSeen_2 H locs ls hI hl hf => ?_) hI (lv_sub hl [2, 3, 1, 0] rfl) hf
  refine lv_iconst (pc := 30) (v := 0) hx hb dX10_classes_30 (by decide) ?_
  refine lv_istore_n (pc := 31) (lv' := [(3, .int 0), (0, .ref (h 0)), (1, .int l1), (2, .int t1)]) hx hb dX10_classes_31 rfl hl (by decide) rfl (fun ls hl => ?_)
  refine k_X10_classes_L32 X E (fun l3_3 z_paint_3 z_leasts_3 z_isSeen_3 z_classMany_3 H locs ls hI hl hf => ?_) hI (lv_sub hl [1, 2, 3, 0] rfl) hf
  obtain rfl := Option.some.inj hf
  exact x_vret X hI dX10_classes_120

abbrev rm_X10_allClasses : Room := { frames := 6, cells := 0, slots := 0, locals := 132 }
set_option maxHeartbeats 4000000 in
set_option maxRecDepth 100000 in
theorem c_X10_allClasses (l : Launch) (G : GX) (h : Nat → Nat) {l1 : Int32} {z_s : Nat → Int32} {z_moveMany : Int32} {z_moves : Nat → Int32} {z_hands : Nat → Int32} {z_paint : Nat → Int32} {z_leasts : Nat → Int32} {z_isSeen : Nat → Int32} {z_classMany : Int32} {z_thrown : Int32} {z_kept : Nat → Int32} {z_isKept : Int32} {z_troubles : Int32} {z_troubleSorts : Nat → Int32} {z_troubleNumbers : Nat → Int32} {z_asked : Nat → Int32} {z_types : Nat → Int32} {z_typeCounts : Nat → Int32} {z_typeMany : Int32} {z_text : Nat → Int32} {z_signs : Int32} {z_at : Int32} {z_lacks : Int32} {z_clauses : Int32} {z_begun : Int32} {z_letters : Nat → Int32} {z_firsts : Nat → Int32} {z_seconds : Nat → Int32} {z_aside : Nat → Int32} {z_sorts : Nat → Int32} {z_sizes : Nat → Int32} {z_items : Nat → Int64} {res : Int32 × (Nat → Int32) × (Nat → Int32) × (Nat → Int32) × (Nat → Int32) × (Nat → Int32) × Int32} (hf : f_X10_allClasses l1 z_s z_moveMany z_moves z_hands z_paint z_leasts z_isSeen z_classMany = some res) : MX l yX10_allClasses cX10_allClasses 2 none rm_X10_allClasses G (mw G h z_thrown z_s z_kept z_isKept z_moveMany z_moves z_hands z_troubles z_troubleSorts z_troubleNumbers z_asked z_paint z_leasts z_isSeen z_classMany z_types z_typeCounts z_typeMany z_text z_signs z_at z_lacks z_clauses z_begun z_letters z_firsts z_seconds z_aside z_sorts z_sizes z_items) [.ref (h 0), .int l1] (mw G h z_thrown z_s z_kept z_isKept res.1 res.2.1 res.2.2.1 z_troubles z_troubleSorts z_troubleNumbers z_asked res.2.2.2.1 res.2.2.2.2.1 res.2.2.2.2.2.1 res.2.2.2.2.2.2 z_types z_typeCounts z_typeMany z_text z_signs z_at z_lacks z_clauses z_begun z_letters z_firsts z_seconds z_aside z_sorts z_sizes z_items) none 0 0 := by
  refine MX.of (plainFor_of_name (by decide)) (Nat.le_of_ble_eq_true rfl) ?_
  intro p e s m below meth c A X E hI ls hl
  obtain ⟨hx, hb, hml, hown, hts, hr, hlk⟩ := id X
  have hl : lv_has ls 2 [(0, .ref (h 0)), (1, .int l1)] := hl
  unfold f_X10_allClasses at hf
  refine lv_aload_n (pc := 0) hx hb dX10_allClasses_0 rfl (lv_at hl 0 rfl) ?_
  obtain ⟨t1, e1, hf⟩ := q_ob hf
  refine x_cVs (pc := 1) (st1 := []) (w1 := (mw G h z_thrown z_s z_kept z_isKept t1.1 t1.2.1 t1.2.2 z_troubles z_troubleSorts z_troubleNumbers z_asked z_paint z_leasts z_isSeen z_classMany z_types z_typeCounts z_typeMany z_text z_signs z_at z_lacks z_clauses z_begun z_letters z_firsts z_seconds z_aside z_sorts z_sizes z_items)) X E hI (c_X10_moves_ l G h e1) kv_X10_163 hd_X10_moves_ ⟨rfl, rfl⟩ (by decide) 0 rfl rfl rfl rfl hl.1 rfl (Nat.le_of_ble_eq_true rfl) dX10_allClasses_1 ⟨Nat.le_of_ble_eq_true rfl, Nat.le_of_ble_eq_true rfl⟩ rfl (fun H locs hI => ?_)
  refine lv_aload_n (pc := 4) hx hb dX10_allClasses_4 rfl (lv_at hl 0 rfl) ?_
  refine lv_iload_n (pc := 5) hx hb dX10_allClasses_5 rfl (lv_at hl 1 rfl) ?_
  obtain ⟨t2, e2, hf⟩ := q_ob hf
  refine x_cVs (pc := 6) (st1 := []) (w1 := (mw G h z_thrown z_s z_kept z_isKept t1.1 t1.2.1 t1.2.2 z_troubles z_troubleSorts z_troubleNumbers z_asked t2.1 t2.2.1 t2.2.2.1 t2.2.2.2 z_types z_typeCounts z_typeMany z_text z_signs z_at z_lacks z_clauses z_begun z_letters z_firsts z_seconds z_aside z_sorts z_sizes z_items)) X E hI (c_X10_classes l G h e2) kv_X10_189 hd_X10_classes ⟨rfl, rfl⟩ (by decide) 0 rfl rfl rfl rfl hl.1 rfl (Nat.le_of_ble_eq_true rfl) dX10_allClasses_6 ⟨Nat.le_of_ble_eq_true rfl, Nat.le_of_ble_eq_true rfl⟩ rfl (fun H locs hI => ?_)
  obtain rfl := Option.some.inj hf
  exact x_vret X hI dX10_allClasses_9

abbrev rm_X10_mirrors : Room := { frames := 2, cells := 0, slots := 0, locals := 45 }
set_option maxHeartbeats 4000000 in
set_option maxRecDepth 100000 in
theorem c_X10_mirrors (l : Launch) (G : GX) (h : Nat → Nat) {z_moveMany : Int32} {z_hands : Nat → Int32} {z_thrown : Int32} {z_s : Nat → Int32} {z_kept : Nat → Int32} {z_isKept : Int32} {z_moves : Nat → Int32} {z_troubles : Int32} {z_troubleSorts : Nat → Int32} {z_troubleNumbers : Nat → Int32} {z_asked : Nat → Int32} {z_paint : Nat → Int32} {z_leasts : Nat → Int32} {z_isSeen : Nat → Int32} {z_classMany : Int32} {z_types : Nat → Int32} {z_typeCounts : Nat → Int32} {z_typeMany : Int32} {z_text : Nat → Int32} {z_signs : Int32} {z_at : Int32} {z_lacks : Int32} {z_clauses : Int32} {z_begun : Int32} {z_letters : Nat → Int32} {z_firsts : Nat → Int32} {z_seconds : Nat → Int32} {z_aside : Nat → Int32} {z_sorts : Nat → Int32} {z_sizes : Nat → Int32} {z_items : Nat → Int64} {res : Int32} (hf : f_X10_mirrors z_moveMany z_hands = some res) : MX l yX10_mirrors cX10_mirrors 1 (some .int) rm_X10_mirrors G (mw G h z_thrown z_s z_kept z_isKept z_moveMany z_moves z_hands z_troubles z_troubleSorts z_troubleNumbers z_asked z_paint z_leasts z_isSeen z_classMany z_types z_typeCounts z_typeMany z_text z_signs z_at z_lacks z_clauses z_begun z_letters z_firsts z_seconds z_aside z_sorts z_sizes z_items) [.ref (h 0)] (mw G h z_thrown z_s z_kept z_isKept z_moveMany z_moves z_hands z_troubles z_troubleSorts z_troubleNumbers z_asked z_paint z_leasts z_isSeen z_classMany z_types z_typeCounts z_typeMany z_text z_signs z_at z_lacks z_clauses z_begun z_letters z_firsts z_seconds z_aside z_sorts z_sizes z_items) (some (.int res)) 0 0 := by
  refine MX.of (plainFor_of_name (by decide)) (Nat.le_of_ble_eq_true rfl) ?_
  intro p e s m below meth c A X E hI ls hl
  obtain ⟨hx, hb, hml, hown, hts, hr, hlk⟩ := id X
  have hl : lv_has ls 1 [(0, .ref (h 0))] := hl
  unfold f_X10_mirrors at hf
  refine lv_aload_n (pc := 0) hx hb dX10_mirrors_0 rfl (lv_at hl 0 rfl) ?_
  refine x_get (pc := 1) X E hI inX10 0 rfl rfl 4 (by decide) tw_3_233 rfl dX10_mirrors_1 ?_
  refine lv_aload_n (pc := 4) hx hb dX10_mirrors_4 rfl (lv_at hl 0 rfl) ?_
  refine lv_iconst (pc := 5) (v := 0) hx hb dX10_mirrors_5 (by decide) ?_
  obtain ⟨t1, e1, hf⟩ := q_ob hf
  refine x_cVs (pc := 6) (st1 := [.int t1, .int z_moveMany]) (w1 := (mw G h z_thrown z_s z_kept z_isKept z_moveMany z_moves z_hands z_troubles z_troubleSorts z_troubleNumbers z_asked z_paint z_leasts z_isSeen z_classMany z_types z_typeCounts z_typeMany z_text z_signs z_at z_lacks z_clauses z_begun z_letters z_firsts z_seconds z_aside z_sorts z_sizes z_items)) X E hI (c_X10_manyOf l G h e1) kv_X10_180 hd_X10_manyOf ⟨rfl, rfl⟩ (by decide) 0 rfl rfl rfl rfl hl.1 rfl (Nat.le_of_ble_eq_true rfl) dX10_mirrors_6 ⟨Nat.le_of_ble_eq_true rfl, Nat.le_of_ble_eq_true rfl⟩ rfl (fun H locs hI => ?_)
  refine lv_isub (pc := 9) hx hb dX10_mirrors_9 ?_
  obtain rfl := Option.some.inj hf
  exact x_iret X hI dX10_mirrors_10

abbrev rm_X10_firstMirror : Room := { frames := 0, cells := 0, slots := 0, locals := 0 }
set_option maxHeartbeats 4000000 in
set_option maxRecDepth 100000 in
theorem k_X10_firstMirror_L2 {p : Program} {l : Launch} {e : Env} {s : State} {m : MethodId} {args : Array Value} {below : List Frame} {meth : Method} {c : Code} {A : Nat → Prop} {G : GX} {h : Nat → Nat} {z_thrown : Int32} {z_s : Nat → Int32} {z_kept : Nat → Int32} {z_isKept : Int32} {z_moveMany : Int32} {z_moves : Nat → Int32} {z_hands : Nat → Int32} {z_troubles : Int32} {z_troubleSorts : Nat → Int32} {z_troubleNumbers : Nat → Int32} {z_asked : Nat → Int32} {z_paint : Nat → Int32} {z_leasts : Nat → Int32} {z_isSeen : Nat → Int32} {z_classMany : Int32} {z_types : Nat → Int32} {z_typeCounts : Nat → Int32} {z_typeMany : Int32} {z_text : Nat → Int32} {z_signs : Int32} {z_at : Int32} {z_lacks : Int32} {z_clauses : Int32} {z_begun : Int32} {z_letters : Nat → Int32} {z_firsts : Nat → Int32} {z_seconds : Nat → Int32} {z_aside : Nat → Int32} {z_sorts : Nat → Int32} {z_sizes : Nat → Int32} {z_items : Nat → Int64} {K : Int32 → Option (Int32)} {res : Int32} (X : CX RX10 cX10_firstMirror 2 (some .int) p s m args meth c) (E : EX G A s)
    (hK : ∀ (l1 : Int32) (H : Heap) (locs : List Loc) (ls : Array Slot), IN A G (mw G h z_thrown z_s z_kept z_isKept z_moveMany z_moves z_hands z_troubles z_troubleSorts z_troubleNumbers z_asked z_paint z_leasts z_isSeen z_classMany z_types z_typeCounts z_typeMany z_text z_signs z_at z_lacks z_clauses z_begun z_letters z_firsts z_seconds z_aside z_sorts z_sizes z_items) s H locs → lv_has ls 2 [(0, .ref (h 0)), (1, .int l1)] → K l1 = some res → W p l e rm_X10_firstMirror s m args below meth c H locs 0 0 (MQ below (QX G A (mw G h z_thrown z_s z_kept z_isKept z_moveMany z_moves z_hands z_troubles z_troubleSorts z_troubleNumbers z_asked z_paint z_leasts z_isSeen z_classMany z_types z_typeCounts z_typeMany z_text z_signs z_at z_lacks z_clauses z_begun z_letters z_firsts z_seconds z_aside z_sorts z_sizes z_items) (some (.int res))) args s 0 0 A) (F0 m 17 ls [])) :
    ∀ {k : Nat} {l1 : Int32} {H : Heap} {locs : List Loc} {ls : Array Slot}, IN A G (mw G h z_thrown z_s z_kept z_isKept z_moveMany z_moves z_hands z_troubles z_troubleSorts z_troubleNumbers z_asked z_paint z_leasts z_isSeen z_classMany z_types z_typeCounts z_typeMany z_text z_signs z_at z_lacks z_clauses z_begun z_letters z_firsts z_seconds z_aside z_sorts z_sizes z_items) s H locs → lv_has ls 2 [(0, .ref (h 0)), (1, .int l1)] → f_X10_firstMirror_L2 z_hands K k l1 = some res → W p l e rm_X10_firstMirror s m args below meth c H locs 0 0 (MQ below (QX G A (mw G h z_thrown z_s z_kept z_isKept z_moveMany z_moves z_hands z_troubles z_troubleSorts z_troubleNumbers z_asked z_paint z_leasts z_isSeen z_classMany z_types z_typeCounts z_typeMany z_text z_signs z_at z_lacks z_clauses z_begun z_letters z_firsts z_seconds z_aside z_sorts z_sizes z_items) (some (.int res))) args s 0 0 A) (F0 m 2 ls []) := by
  obtain ⟨hx, hb, hml, hown, hts, hr, hlk⟩ := id X
  intro k
  induction k with
  | zero => intro l1 H locs ls hI hl hf; exact nomatch (show none = some res from hf)
  | succ k ih =>
    intro l1 H locs ls hI hl hf
    rw [f_X10_firstMirror_L2] at hf
    refine lv_aload_n (pc := 2) hx hb dX10_firstMirror_2 rfl (lv_at hl 0 rfl) ?_
    refine x_get (pc := 3) X E hI inX10 0 rfl rfl 6 (by decide) tw_3_235 rfl dX10_firstMirror_3 ?_
    refine lv_iload_n (pc := 6) hx hb dX10_firstMirror_6 rfl (lv_at hl 1 rfl) ?_
    obtain ⟨t1, e1, hf⟩ := q_ob hf
    refine x_iald (pc := 7) X E hI 4 rfl e1 dX10_firstMirror_7 ?_
    refine lv_if_ne (pc := 8) (tgt := 17) hx hb dX10_firstMirror_8 (by decide) (fun c2 => ?_) (fun c2 => ?_)
    · have hf := q_in c2 hf
      exact hK _ _ _ _ hI (lv_sub hl [0, 1] rfl) hf
    · have hf := q_ip c2 hf
      refine lv_iinc (pc := 11) (v := l1 + 1) (lv' := [(1, .int (l1 + 1)), (0, .ref (h 0))]) hx hb dX10_firstMirror_11 hl (k := 1) rfl rfl (by decide) rfl (fun ls hl => ?_)
      refine lv_goto (pc := 14) (tgt := 2) hx hb dX10_firstMirror_14 (by decide) ?_
      exact ih hI (lv_sub hl [1, 0] rfl) hf

set_option maxHeartbeats 4000000 in
set_option maxRecDepth 100000 in
theorem c_X10_firstMirror (l : Launch) (G : GX) (h : Nat → Nat) {z_hands : Nat → Int32} {z_thrown : Int32} {z_s : Nat → Int32} {z_kept : Nat → Int32} {z_isKept : Int32} {z_moveMany : Int32} {z_moves : Nat → Int32} {z_troubles : Int32} {z_troubleSorts : Nat → Int32} {z_troubleNumbers : Nat → Int32} {z_asked : Nat → Int32} {z_paint : Nat → Int32} {z_leasts : Nat → Int32} {z_isSeen : Nat → Int32} {z_classMany : Int32} {z_types : Nat → Int32} {z_typeCounts : Nat → Int32} {z_typeMany : Int32} {z_text : Nat → Int32} {z_signs : Int32} {z_at : Int32} {z_lacks : Int32} {z_clauses : Int32} {z_begun : Int32} {z_letters : Nat → Int32} {z_firsts : Nat → Int32} {z_seconds : Nat → Int32} {z_aside : Nat → Int32} {z_sorts : Nat → Int32} {z_sizes : Nat → Int32} {z_items : Nat → Int64} {res : Int32} (hf : f_X10_firstMirror z_hands = some res) : MX l yX10_firstMirror cX10_firstMirror 2 (some .int) rm_X10_firstMirror G (mw G h z_thrown z_s z_kept z_isKept z_moveMany z_moves z_hands z_troubles z_troubleSorts z_troubleNumbers z_asked z_paint z_leasts z_isSeen z_classMany z_types z_typeCounts z_typeMany z_text z_signs z_at z_lacks z_clauses z_begun z_letters z_firsts z_seconds z_aside z_sorts z_sizes z_items) [.ref (h 0)] (mw G h z_thrown z_s z_kept z_isKept z_moveMany z_moves z_hands z_troubles z_troubleSorts z_troubleNumbers z_asked z_paint z_leasts z_isSeen z_classMany z_types z_typeCounts z_typeMany z_text z_signs z_at z_lacks z_clauses z_begun z_letters z_firsts z_seconds z_aside z_sorts z_sizes z_items) (some (.int res)) 0 0 := by
  refine MX.of (plainFor_of_name (by decide)) (Nat.le_of_ble_eq_true rfl) ?_
  intro p e s m below meth c A X E hI ls hl
  obtain ⟨hx, hb, hml, hown, hts, hr, hlk⟩ := id X
  have hl : lv_has ls 2 [(0, .ref (h 0))] := hl
  unfold f_X10_firstMirror at hf
  refine lv_iconst (pc := 0) (v := 0) hx hb dX10_firstMirror_0 (by decide) ?_
  refine lv_istore_n (pc := 1) (lv' := [(1, .int 0), (0, .ref (h 0))]) hx hb dX10_firstMirror_1 rfl hl (by decide) rfl (fun ls hl => ?_)
  refine k_X10_firstMirror_L2 X E (fun l1_1 H locs ls hI hl hf => ?_) hI (lv_sub hl [1, 0] rfl) hf
  refine lv_iload_n (pc := 17) hx hb dX10_firstMirror_17 rfl (lv_at hl 1 rfl) ?_
  obtain rfl := Option.some.inj hf
  exact x_iret X hI dX10_firstMirror_18

abbrev rm_X10_otherHand : Room := { frames := 3, cells := 0, slots := 0, locals := 69 }
set_option maxHeartbeats 4000000 in
set_option maxRecDepth 100000 in
theorem c_X10_otherHand (l : Launch) (G : GX) (h : Nat → Nat) {l1 : Int32} {z_s : Nat → Int32} {z_moveMany : Int32} {z_moves : Nat → Int32} {z_hands : Nat → Int32} {z_paint : Nat → Int32} {z_thrown : Int32} {z_kept : Nat → Int32} {z_isKept : Int32} {z_troubles : Int32} {z_troubleSorts : Nat → Int32} {z_troubleNumbers : Nat → Int32} {z_asked : Nat → Int32} {z_leasts : Nat → Int32} {z_isSeen : Nat → Int32} {z_classMany : Int32} {z_types : Nat → Int32} {z_typeCounts : Nat → Int32} {z_typeMany : Int32} {z_text : Nat → Int32} {z_signs : Int32} {z_at : Int32} {z_lacks : Int32} {z_clauses : Int32} {z_begun : Int32} {z_letters : Nat → Int32} {z_firsts : Nat → Int32} {z_seconds : Nat → Int32} {z_aside : Nat → Int32} {z_sorts : Nat → Int32} {z_sizes : Nat → Int32} {z_items : Nat → Int64} {res : Int32 × (Nat → Int32)} (hf : f_X10_otherHand l1 z_s z_moveMany z_moves z_hands z_paint = some res) : MX l yX10_otherHand cX10_otherHand 2 (some .int) rm_X10_otherHand G (mw G h z_thrown z_s z_kept z_isKept z_moveMany z_moves z_hands z_troubles z_troubleSorts z_troubleNumbers z_asked z_paint z_leasts z_isSeen z_classMany z_types z_typeCounts z_typeMany z_text z_signs z_at z_lacks z_clauses z_begun z_letters z_firsts z_seconds z_aside z_sorts z_sizes z_items) [.ref (h 0), .int l1] (mw G h z_thrown z_s z_kept z_isKept z_moveMany z_moves z_hands z_troubles z_troubleSorts z_troubleNumbers z_asked res.2 z_leasts z_isSeen z_classMany z_types z_typeCounts z_typeMany z_text z_signs z_at z_lacks z_clauses z_begun z_letters z_firsts z_seconds z_aside z_sorts z_sizes z_items) (some (.int res.1)) 0 0 := by
  refine MX.of (plainFor_of_name (by decide)) (Nat.le_of_ble_eq_true rfl) ?_
  intro p e s m below meth c A X E hI ls hl
  obtain ⟨hx, hb, hml, hown, hts, hr, hlk⟩ := id X
  have hl : lv_has ls 2 [(0, .ref (h 0)), (1, .int l1)] := hl
  unfold f_X10_otherHand at hf
  refine lv_aload_n (pc := 0) hx hb dX10_otherHand_0 rfl (lv_at hl 0 rfl) ?_
  refine lv_iload_n (pc := 1) hx hb dX10_otherHand_1 rfl (lv_at hl 1 rfl) ?_
  obtain ⟨t1, e1, hf⟩ := q_ob hf
  refine x_cVs (pc := 2) (st1 := []) (w1 := (mw G h z_thrown z_s z_kept z_isKept z_moveMany z_moves z_hands z_troubles z_troubleSorts z_troubleNumbers z_asked t1 z_leasts z_isSeen z_classMany z_types z_typeCounts z_typeMany z_text z_signs z_at z_lacks z_clauses z_begun z_letters z_firsts z_seconds z_aside z_sorts z_sizes z_items)) X E hI (c_X10_paints l G h e1) kv_X10_168 hd_X10_paints ⟨rfl, rfl⟩ (by decide) 0 rfl rfl rfl rfl hl.1 rfl (Nat.le_of_ble_eq_true rfl) dX10_otherHand_2 ⟨Nat.le_of_ble_eq_true rfl, Nat.le_of_ble_eq_true rfl⟩ rfl (fun H locs hI => ?_)
  refine lv_aload_n (pc := 5) hx hb dX10_otherHand_5 rfl (lv_at hl 0 rfl) ?_
  refine lv_iconst (pc := 6) (v := 0) hx hb dX10_otherHand_6 (by decide) ?_
  refine lv_aload_n (pc := 7) hx hb dX10_otherHand_7 rfl (lv_at hl 0 rfl) ?_
  refine lv_aload_n (pc := 8) hx hb dX10_otherHand_8 rfl (lv_at hl 0 rfl) ?_
  obtain ⟨t2, e2, hf⟩ := q_ob hf
  refine x_cVs (pc := 9) (st1 := [.int t2, .ref (h 0), .int 0, .ref (h 0)]) (w1 := (mw G h z_thrown z_s z_kept z_isKept z_moveMany z_moves z_hands z_troubles z_troubleSorts z_troubleNumbers z_asked t1 z_leasts z_isSeen z_classMany z_types z_typeCounts z_typeMany z_text z_signs z_at z_lacks z_clauses z_begun z_letters z_firsts z_seconds z_aside z_sorts z_sizes z_items)) X E hI (c_X10_firstMirror l G h e2) kv_X10_192 hd_X10_firstMirror ⟨rfl, rfl⟩ (by decide) 0 rfl rfl rfl rfl hl.1 rfl (Nat.le_of_ble_eq_true rfl) dX10_otherHand_9 ⟨Nat.le_of_ble_eq_true rfl, Nat.le_of_ble_eq_true rfl⟩ rfl (fun H locs hI => ?_)
  obtain ⟨t3, e3, hf⟩ := q_ob hf
  refine x_cVs (pc := 12) (st1 := [.int t3, .int 0, .ref (h 0)]) (w1 := (mw G h z_thrown z_s z_kept z_isKept z_moveMany z_moves z_hands z_troubles z_troubleSorts z_troubleNumbers z_asked t1 z_leasts z_isSeen z_classMany z_types z_typeCounts z_typeMany z_text z_signs z_at z_lacks z_clauses z_begun z_letters z_firsts z_seconds z_aside z_sorts z_sizes z_items)) X E hI (c_X10_becomes l G h e3) kv_X10_172 hd_X10_becomes ⟨rfl, rfl⟩ (by decide) 0 rfl rfl rfl rfl hl.1 rfl (Nat.le_of_ble_eq_true rfl) dX10_otherHand_12 ⟨Nat.le_of_ble_eq_true rfl, Nat.le_of_ble_eq_true rfl⟩ rfl (fun H locs hI => ?_)
  obtain ⟨t4, e4, hf⟩ := q_ob hf
  refine x_cVs (pc := 15) (st1 := [.int t4.1]) (w1 := (mw G h z_thrown z_s z_kept z_isKept z_moveMany z_moves z_hands z_troubles z_troubleSorts z_troubleNumbers z_asked t4.2 z_leasts z_isSeen z_classMany z_types z_typeCounts z_typeMany z_text z_signs z_at z_lacks z_clauses z_begun z_letters z_firsts z_seconds z_aside z_sorts z_sizes z_items)) X E hI (c_X10_leastOf l G h e4) kv_X10_195 hd_X10_leastOf ⟨rfl, rfl⟩ (by decide) 0 rfl rfl rfl rfl hl.1 rfl (Nat.le_of_ble_eq_true rfl) dX10_otherHand_15 ⟨Nat.le_of_ble_eq_true rfl, Nat.le_of_ble_eq_true rfl⟩ rfl (fun H locs hI => ?_)
  obtain rfl := Option.some.inj hf
  exact x_iret X hI dX10_otherHand_18

abbrev rm_X10_isHanded : Room := { frames := 4, cells := 0, slots := 0, locals := 90 }
set_option maxHeartbeats 4000000 in
set_option maxRecDepth 100000 in
theorem c_X10_isHanded (l : Launch) (G : GX) (h : Nat → Nat) {l1 : Int32} {z_s : Nat → Int32} {z_moveMany : Int32} {z_moves : Nat → Int32} {z_hands : Nat → Int32} {z_paint : Nat → Int32} {z_thrown : Int32} {z_kept : Nat → Int32} {z_isKept : Int32} {z_troubles : Int32} {z_troubleSorts : Nat → Int32} {z_troubleNumbers : Nat → Int32} {z_asked : Nat → Int32} {z_leasts : Nat → Int32} {z_isSeen : Nat → Int32} {z_classMany : Int32} {z_types : Nat → Int32} {z_typeCounts : Nat → Int32} {z_typeMany : Int32} {z_text : Nat → Int32} {z_signs : Int32} {z_at : Int32} {z_lacks : Int32} {z_clauses : Int32} {z_begun : Int32} {z_letters : Nat → Int32} {z_firsts : Nat → Int32} {z_seconds : Nat → Int32} {z_aside : Nat → Int32} {z_sorts : Nat → Int32} {z_sizes : Nat → Int32} {z_items : Nat → Int64} {res : Int32 × (Nat → Int32)} (hf : f_X10_isHanded l1 z_s z_moveMany z_moves z_hands z_paint = some res) : MX l yX10_isHanded cX10_isHanded 2 (some .boolean) rm_X10_isHanded G (mw G h z_thrown z_s z_kept z_isKept z_moveMany z_moves z_hands z_troubles z_troubleSorts z_troubleNumbers z_asked z_paint z_leasts z_isSeen z_classMany z_types z_typeCounts z_typeMany z_text z_signs z_at z_lacks z_clauses z_begun z_letters z_firsts z_seconds z_aside z_sorts z_sizes z_items) [.ref (h 0), .int l1] (mw G h z_thrown z_s z_kept z_isKept z_moveMany z_moves z_hands z_troubles z_troubleSorts z_troubleNumbers z_asked res.2 z_leasts z_isSeen z_classMany z_types z_typeCounts z_typeMany z_text z_signs z_at z_lacks z_clauses z_begun z_letters z_firsts z_seconds z_aside z_sorts z_sizes z_items) (some (.int res.1)) 0 0 := by
  refine MX.of (plainFor_of_name (by decide)) (Nat.le_of_ble_eq_true rfl) ?_
  intro p e s m below meth c A X E hI ls hl
  obtain ⟨hx, hb, hml, hown, hts, hr, hlk⟩ := id X
  have hl : lv_has ls 2 [(0, .ref (h 0)), (1, .int l1)] := hl
  unfold f_X10_isHanded at hf
  refine lv_aload_n (pc := 0) hx hb dX10_isHanded_0 rfl (lv_at hl 0 rfl) ?_
  obtain ⟨t1, e1, hf⟩ := q_ob hf
  refine x_cVs (pc := 1) (st1 := [.int t1]) (w1 := (mw G h z_thrown z_s z_kept z_isKept z_moveMany z_moves z_hands z_troubles z_troubleSorts z_troubleNumbers z_asked z_paint z_leasts z_isSeen z_classMany z_types z_typeCounts z_typeMany z_text z_signs z_at z_lacks z_clauses z_begun z_letters z_firsts z_seconds z_aside z_sorts z_sizes z_items)) X E hI (c_X10_mirrors l G h e1) kv_X10_198 hd_X10_mirrors ⟨rfl, rfl⟩ (by decide) 0 rfl rfl rfl rfl hl.1 rfl (Nat.le_of_ble_eq_true rfl) dX10_isHanded_1 ⟨Nat.le_of_ble_eq_true rfl, Nat.le_of_ble_eq_true rfl⟩ rfl (fun H locs hI => ?_)
  refine lv_if_le (pc := 4) (tgt := 25) hx hb dX10_isHanded_4 (by decide) (fun c2 => ?_) (fun c2 => ?_)
  · have hf := q_ip c2 hf
    refine lv_iconst (pc := 25) (v := 0) hx hb dX10_isHanded_25 (by decide) ?_
    obtain rfl := Option.some.inj hf
    exact x_zret X hI (Or.inl rfl) dX10_isHanded_26
  · have hf := q_in c2 hf
    refine lv_aload_n (pc := 7) hx hb dX10_isHanded_7 rfl (lv_at hl 0 rfl) ?_
    refine lv_iload_n (pc := 8) hx hb dX10_isHanded_8 rfl (lv_at hl 1 rfl) ?_
    obtain ⟨t3, e3, hf⟩ := q_ob hf
    refine x_cVs (pc := 9) (st1 := [.int t3.1]) (w1 := (mw G h z_thrown z_s z_kept z_isKept z_moveMany z_moves z_hands z_troubles z_troubleSorts z_troubleNumbers z_asked t3.2 z_leasts z_isSeen z_classMany z_types z_typeCounts z_typeMany z_text z_signs z_at z_lacks z_clauses z_begun z_letters z_firsts z_seconds z_aside z_sorts z_sizes z_items)) X E hI (c_X10_otherHand l G h e3) kv_X10_201 hd_X10_otherHand ⟨rfl, rfl⟩ (by decide) 0 rfl rfl rfl rfl hl.1 rfl (Nat.le_of_ble_eq_true rfl) dX10_isHanded_9 ⟨Nat.le_of_ble_eq_true rfl, Nat.le_of_ble_eq_true rfl⟩ rfl (fun H locs hI => ?_)
    refine lv_aload_n (pc := 12) hx hb dX10_isHanded_12 rfl (lv_at hl 0 rfl) ?_
    refine lv_iconst (pc := 13) (v := 0) hx hb dX10_isHanded_13 (by decide) ?_
    refine lv_iload_n (pc := 14) hx hb dX10_isHanded_14 rfl (lv_at hl 1 rfl) ?_
    obtain ⟨t4, e4, hf⟩ := q_ob hf
    refine x_cVs (pc := 15) (st1 := [.int t4.1, .int t3.1]) (w1 := (mw G h z_thrown z_s z_kept z_isKept z_moveMany z_moves z_hands z_troubles z_troubleSorts z_troubleNumbers z_asked t4.2 z_leasts z_isSeen z_classMany z_types z_typeCounts z_typeMany z_text z_signs z_at z_lacks z_clauses z_begun z_letters z_firsts z_seconds z_aside z_sorts z_sizes z_items)) X E hI (c_X10_leastOf l G h e4) kv_X10_195 hd_X10_leastOf ⟨rfl, rfl⟩ (by decide) 0 rfl rfl rfl rfl hl.1 rfl (Nat.le_of_ble_eq_true rfl) dX10_isHanded_15 ⟨Nat.le_of_ble_eq_true rfl, Nat.le_of_ble_eq_true rfl⟩ rfl (fun H locs hI => ?_)
    refine lv_icmp_eq (pc := 18) (tgt := 25) hx hb dX10_isHanded_18 (by decide) (fun c5 => ?_) (fun c5 => ?_)
    · have hf := q_ip c5 hf
      refine lv_iconst (pc := 25) (v := 0) hx hb dX10_isHanded_25 (by decide) ?_
      obtain rfl := Option.some.inj hf
      exact x_zret X hI (Or.inl rfl) dX10_isHanded_26
    · have hf := q_in c5 hf
      refine lv_iconst (pc := 21) (v := 1) hx hb dX10_isHanded_21 (by decide) ?_
      refine lv_goto (pc := 22) (tgt := 26) hx hb dX10_isHanded_22 (by decide) ?_
      obtain rfl := Option.some.inj hf
      exact x_zret X hI (Or.inr rfl) dX10_isHanded_26

abbrev rm_X10_pairs : Room := { frames := 7, cells := 0, slots := 0, locals := 153 }
set_option maxHeartbeats 4000000 in
set_option maxRecDepth 100000 in
theorem k_X10_pairs_L9 {p : Program} {l : Launch} {e : Env} {s : State} {m : MethodId} {args : Array Value} {below : List Frame} {meth : Method} {c : Code} {A : Nat → Prop} {G : GX} {h : Nat → Nat} {z_thrown : Int32} {z_s : Nat → Int32} {z_kept : Nat → Int32} {z_isKept : Int32} {z_moveMany : Int32} {z_moves : Nat → Int32} {z_hands : Nat → Int32} {z_troubles : Int32} {z_troubleSorts : Nat → Int32} {z_troubleNumbers : Nat → Int32} {z_asked : Nat → Int32} {z_leasts : Nat → Int32} {z_isSeen : Nat → Int32} {z_classMany : Int32} {z_types : Nat → Int32} {z_typeCounts : Nat → Int32} {z_typeMany : Int32} {z_text : Nat → Int32} {z_signs : Int32} {z_at : Int32} {z_lacks : Int32} {z_clauses : Int32} {z_begun : Int32} {z_letters : Nat → Int32} {z_firsts : Nat → Int32} {z_seconds : Nat → Int32} {z_aside : Nat → Int32} {z_sorts : Nat → Int32} {z_sizes : Nat → Int32} {z_items : Nat → Int64} {K : Int32 → Int32 → (Nat → Int32) → Option (Int32 × Int32 × (Nat → Int32) × (Nat → Int32) × (Nat → Int32) × (Nat → Int32) × (Nat → Int32) × Int32)} {res : Int32 × Int32 × (Nat → Int32) × (Nat → Int32) × (Nat → Int32) × (Nat → Int32) × (Nat → Int32) × Int32} (X : CX RX10 cX10_pairs 3 (some .int) p s m args meth c) (E : EX G A s)
    (hK : ∀ (l1 : Int32) (l2 : Int32) (z_paint : (Nat → Int32)) (H : Heap) (locs : List Loc) (ls : Array Slot), IN A G (mw G h z_thrown z_s z_kept z_isKept z_moveMany z_moves z_hands z_troubles z_troubleSorts z_troubleNumbers z_asked z_paint z_leasts z_isSeen z_classMany z_types z_typeCounts z_typeMany z_text z_signs z_at z_lacks z_clauses z_begun z_letters z_firsts z_seconds z_aside z_sorts z_sizes z_items) s H locs → lv_has ls 3 [(0, .ref (h 0)), (1, .int l1), (2, .int l2)] → K l1 l2 z_paint = some res → W p l e rm_X10_pairs s m args below meth c H locs 0 0 (MQ below (QX G A (mw G h z_thrown z_s z_kept z_isKept res.2.1 res.2.2.1 res.2.2.2.1 z_troubles z_troubleSorts z_troubleNumbers z_asked res.2.2.2.2.1 res.2.2.2.2.2.1 res.2.2.2.2.2.2.1 res.2.2.2.2.2.2.2 z_types z_typeCounts z_typeMany z_text z_signs z_at z_lacks z_clauses z_begun z_letters z_firsts z_seconds z_aside z_sorts z_sizes z_items) (some (.int res.1))) args s 0 0 A) (F0 m 44 ls [])) :
    ∀ {k : Nat} {l1 : Int32} {l2 : Int32} {z_paint : (Nat → Int32)} {H : Heap} {locs : List Loc} {ls : Array Slot}, IN A G (mw G h z_thrown z_s z_kept z_isKept z_moveMany z_moves z_hands z_troubles z_troubleSorts z_troubleNumbers z_asked z_paint z_leasts z_isSeen z_classMany z_types z_typeCounts z_typeMany z_text z_signs z_at z_lacks z_clauses z_begun z_letters z_firsts z_seconds z_aside z_sorts z_sizes z_items) s H locs → lv_has ls 3 [(0, .ref (h 0)), (1, .int l1), (2, .int l2)] → f_X10_pairs_L9 z_s z_moveMany z_moves z_hands z_leasts z_classMany K k l1 l2 z_paint = some res → W p l e rm_X10_pairs s m args below meth c H locs 0 0 (MQ below (QX G A (mw G h z_thrown z_s z_kept z_isKept res.2.1 res.2.2.1 res.2.2.2.1 z_troubles z_troubleSorts z_troubleNumbers z_asked res.2.2.2.2.1 res.2.2.2.2.2.1 res.2.2.2.2.2.2.1 res.2.2.2.2.2.2.2 z_types z_typeCounts z_typeMany z_text z_signs z_at z_lacks z_clauses z_begun z_letters z_firsts z_seconds z_aside z_sorts z_sizes z_items) (some (.int res.1))) args s 0 0 A) (F0 m 9 ls []) := by
  obtain ⟨hx, hb, hml, hown, hts, hr, hlk⟩ := id X
  intro k
  induction k with
  | zero => intro l1 l2 z_paint H locs ls hI hl hf; exact nomatch (show none = some res from hf)
  | succ k ih =>
    intro l1 l2 z_paint H locs ls hI hl hf
    rw [f_X10_pairs_L9] at hf
    refine lv_iload_n (pc := 9) hx hb dX10_pairs_9 rfl (lv_at hl 2 rfl) ?_
    refine lv_aload_n (pc := 10) hx hb dX10_pairs_10 rfl (lv_at hl 0 rfl) ?_
    refine x_get (pc := 11) X E hI inX10 0 rfl rfl 14 (by decide) tw_4_3 rfl dX10_pairs_11 ?_
    refine lv_icmp_ge (pc := 14) (tgt := 44) hx hb dX10_pairs_14 (by decide) (fun c1 => ?_) (fun c1 => ?_)
    · have hf := q_ip c1 hf
      exact hK _ _ _ _ _ _ hI (lv_sub hl [0, 1, 2] rfl) hf
    · have hf := q_in c1 hf
      refine lv_iload_n (pc := 17) hx hb dX10_pairs_17 rfl (lv_at hl 1 rfl) ?_
      refine lv_aload_n (pc := 18) hx hb dX10_pairs_18 rfl (lv_at hl 0 rfl) ?_
      refine lv_aload_n (pc := 19) hx hb dX10_pairs_19 rfl (lv_at hl 0 rfl) ?_
      refine x_get (pc := 20) X E hI inX10 0 rfl rfl 12 (by decide) tw_4_1 rfl dX10_pairs_20 ?_
      refine lv_iload_n (pc := 23) hx hb dX10_pairs_23 rfl (lv_at hl 2 rfl) ?_
      obtain ⟨t2, e2, hf⟩ := q_ob hf
      refine x_iald (pc := 24) X E hI 9 rfl e2 dX10_pairs_24 ?_
      obtain ⟨t3, e3, hf⟩ := q_ob hf
      refine x_cVs (pc := 25) (st1 := [.int t3.1, .int l1]) (w1 := (mw G h z_thrown z_s z_kept z_isKept z_moveMany z_moves z_hands z_troubles z_troubleSorts z_troubleNumbers z_asked t3.2 z_leasts z_isSeen z_classMany z_types z_typeCounts z_typeMany z_text z_signs z_at z_lacks z_clauses z_begun z_letters z_firsts z_seconds z_aside z_sorts z_sizes z_items)) X E hI (c_X10_isHanded l G h e3) kv_X10_207 hd_X10_isHanded ⟨rfl, rfl⟩ (by decide) 0 rfl rfl rfl rfl hl.1 rfl (Nat.le_of_ble_eq_true rfl) dX10_pairs_25 ⟨Nat.le_of_ble_eq_true rfl, Nat.le_of_ble_eq_true rfl⟩ rfl (fun H locs hI => ?_)
      refine lv_if_eq (pc := 28) (tgt := 35) hx hb dX10_pairs_28 (by decide) (fun c4 => ?_) (fun c4 => ?_)
      · have hf := q_ip c4 hf
        refine lv_iconst (pc := 35) (v := 0) hx hb dX10_pairs_35 (by decide) ?_
        refine lv_iadd (pc := 36) hx hb dX10_pairs_36 ?_
        refine lv_istore_n (pc := 37) (lv' := [(1, .int (l1 + 0)), (0, .ref (h 0)), (2, .int l2)]) hx hb dX10_pairs_37 rfl hl (by decide) rfl (fun ls hl => ?_)
        refine lv_iinc (pc := 38) (v := l2 + 1) (lv' := [(2, .int (l2 + 1)), (1, .int (l1 + 0)), (0, .ref (h 0))]) hx hb dX10_pairs_38 hl (k := 2) rfl rfl (by decide) rfl (fun ls hl => ?_)
        refine lv_goto (pc := 41) (tgt := 9) hx hb dX10_pairs_41 (by decide) ?_
        exact ih hI (lv_sub hl [2, 1, 0] rfl) hf
      · have hf := q_in c4 hf
        refine lv_iconst (pc := 31) (v := 1) hx hb dX10_pairs_31 (by decide) ?_
        refine lv_goto (pc := 32) (tgt := 36) hx hb dX10_pairs_32 (by decide) ?_
        refine lv_iadd (pc := 36) hx hb dX10_pairs_36 ?_
        refine lv_istore_n (pc := 37) (lv' := [(1, .int (l1 + 1)), (0, .ref (h 0)), (2, .int l2)]) hx hb dX10_pairs_37 rfl hl (by decide) rfl (fun ls hl => ?_)
        refine lv_iinc (pc := 38) (v := l2 + 1) (lv' := [(2, .int (l2 + 1)), (1, .int (l1 + 1)), (0, .ref (h 0))]) hx hb dX10_pairs_38 hl (k := 2) rfl rfl (by decide) rfl (fun ls hl => ?_)
        refine lv_goto (pc := 41) (tgt := 9) hx hb dX10_pairs_41 (by decide) ?_
        exact ih hI (lv_sub hl [2, 1, 0] rfl) hf

set_option maxHeartbeats 4000000 in
set_option maxRecDepth 100000 in
theorem c_X10_pairs (l : Launch) (G : GX) (h : Nat → Nat) {z_s : Nat → Int32} {z_moveMany : Int32} {z_moves : Nat → Int32} {z_hands : Nat → Int32} {z_paint : Nat → Int32} {z_leasts : Nat → Int32} {z_isSeen : Nat → Int32} {z_classMany : Int32} {z_thrown : Int32} {z_kept : Nat → Int32} {z_isKept : Int32} {z_troubles : Int32} {z_troubleSorts : Nat → Int32} {z_troubleNumbers : Nat → Int32} {z_asked : Nat → Int32} {z_types : Nat → Int32} {z_typeCounts : Nat → Int32} {z_typeMany : Int32} {z_text : Nat → Int32} {z_signs : Int32} {z_at : Int32} {z_lacks : Int32} {z_clauses : Int32} {z_begun : Int32} {z_letters : Nat → Int32} {z_firsts : Nat → Int32} {z_seconds : Nat → Int32} {z_aside : Nat → Int32} {z_sorts : Nat → Int32} {z_sizes : Nat → Int32} {z_items : Nat → Int64} {res : Int32 × Int32 × (Nat → Int32) × (Nat → Int32) × (Nat → Int32) × (Nat → Int32) × (Nat → Int32) × Int32} (hf : f_X10_pairs z_s z_moveMany z_moves z_hands z_paint z_leasts z_isSeen z_classMany = some res) : MX l yX10_pairs cX10_pairs 3 (some .int) rm_X10_pairs G (mw G h z_thrown z_s z_kept z_isKept z_moveMany z_moves z_hands z_troubles z_troubleSorts z_troubleNumbers z_asked z_paint z_leasts z_isSeen z_classMany z_types z_typeCounts z_typeMany z_text z_signs z_at z_lacks z_clauses z_begun z_letters z_firsts z_seconds z_aside z_sorts z_sizes z_items) [.ref (h 0)] (mw G h z_thrown z_s z_kept z_isKept res.2.1 res.2.2.1 res.2.2.2.1 z_troubles z_troubleSorts z_troubleNumbers z_asked res.2.2.2.2.1 res.2.2.2.2.2.1 res.2.2.2.2.2.2.1 res.2.2.2.2.2.2.2 z_types z_typeCounts z_typeMany z_text z_signs z_at z_lacks z_clauses z_begun z_letters z_firsts z_seconds z_aside z_sorts z_sizes z_items) (some (.int res.1)) 0 0 := by
  refine MX.of (plainFor_of_name (by decide)) (Nat.le_of_ble_eq_true rfl) ?_
  intro p e s m below meth c A X E hI ls hl
  obtain ⟨hx, hb, hml, hown, hts, hr, hlk⟩ := id X
  have hl : lv_has ls 3 [(0, .ref (h 0))] := hl
  unfold f_X10_pairs at hf
  refine lv_aload_n (pc := 0) hx hb dX10_pairs_0 rfl (lv_at hl 0 rfl) ?_
  refine lv_iconst (pc := 1) (v := 0) hx hb dX10_pairs_1 (by decide) ?_
  obtain ⟨t1, e1, hf⟩ := q_ob hf
  refine x_cVs (pc := 2) (st1 := []) (w1 := (mw G h z_thrown z_s z_kept z_isKept t1.1 t1.2.1 t1.2.2.1 z_troubles z_troubleSorts z_troubleNumbers z_asked t1.2.2.2.1 t1.2.2.2.2.1 t1.2.2.2.2.2.1 t1.2.2.2.2.2.2 z_types z_typeCounts z_typeMany z_text z_signs z_at z_lacks z_clauses z_begun z_letters z_firsts z_seconds z_aside z_sorts z_sizes z_items)) X E hI (c_X10_allClasses l G h e1) kv_X10_204 hd_X10_allClasses ⟨rfl, rfl⟩ (by decide) 0 rfl rfl rfl rfl hl.1 rfl (Nat.le_of_ble_eq_true rfl) dX10_pairs_2 ⟨Nat.le_of_ble_eq_true rfl, Nat.le_of_ble_eq_true rfl⟩ rfl (fun H locs hI => ?_)
  refine lv_iconst (pc := 5) (v := 0) hx hb dX10_pairs_5 (by decide) ?_
  refine lv_istore_n (pc := 6) (lv' := [(1, .int 0), (0, .ref (h 0))]) hx hb dX10_pairs_6 rfl hl (by decide) rfl (fun ls hl => ?_)
  refine lv_iconst (pc := 7) (v := 0) hx hb dX10_pairs_7 (by decide) ?_
  refine lv_istore_n (pc := 8) (lv' := [(2, .int 0), (1, .int 0), (0, .ref (h 0))]) hx hb dX10_pairs_8 rfl hl (by decide) rfl (fun ls hl => ?_)
  refine k_X10_pairs_L9 X E (fun l1_2 l2_2 z_paint_2 H locs ls hI hl hf => ?_) hI (lv_sub hl [2, 1, 0] rfl) hf
  refine lv_iload_n (pc := 44) hx hb dX10_pairs_44 rfl (lv_at hl 1 rfl) ?_
  refine lv_iconst (pc := 45) (v := 2) hx hb dX10_pairs_45 (by decide) ?_
  obtain ⟨t3, e3, hf⟩ := q_ob hf
  refine x_idiv (pc := 46) X e3 dX10_pairs_46 ?_
  obtain rfl := Option.some.inj hf
  exact x_iret X hI dX10_pairs_47

abbrev rm_X10_classesBy : Room := { frames := 7, cells := 0, slots := 0, locals := 153 }
set_option maxHeartbeats 4000000 in
set_option maxRecDepth 100000 in
theorem c_X10_classesBy (l : Launch) (G : GX) (h : Nat → Nat) {l1 : Int32} {z_s : Nat → Int32} {z_moveMany : Int32} {z_moves : Nat → Int32} {z_hands : Nat → Int32} {z_paint : Nat → Int32} {z_leasts : Nat → Int32} {z_isSeen : Nat → Int32} {z_classMany : Int32} {z_thrown : Int32} {z_kept : Nat → Int32} {z_isKept : Int32} {z_troubles : Int32} {z_troubleSorts : Nat → Int32} {z_troubleNumbers : Nat → Int32} {z_asked : Nat → Int32} {z_types : Nat → Int32} {z_typeCounts : Nat → Int32} {z_typeMany : Int32} {z_text : Nat → Int32} {z_signs : Int32} {z_at : Int32} {z_lacks : Int32} {z_clauses : Int32} {z_begun : Int32} {z_letters : Nat → Int32} {z_firsts : Nat → Int32} {z_seconds : Nat → Int32} {z_aside : Nat → Int32} {z_sorts : Nat → Int32} {z_sizes : Nat → Int32} {z_items : Nat → Int64} {res : Int32 × Int32 × (Nat → Int32) × (Nat → Int32) × (Nat → Int32) × (Nat → Int32) × (Nat → Int32) × Int32} (hf : f_X10_classesBy l1 z_s z_moveMany z_moves z_hands z_paint z_leasts z_isSeen z_classMany = some res) : MX l yX10_classesBy cX10_classesBy 2 (some .int) rm_X10_classesBy G (mw G h z_thrown z_s z_kept z_isKept z_moveMany z_moves z_hands z_troubles z_troubleSorts z_troubleNumbers z_asked z_paint z_leasts z_isSeen z_classMany z_types z_typeCounts z_typeMany z_text z_signs z_at z_lacks z_clauses z_begun z_letters z_firsts z_seconds z_aside z_sorts z_sizes z_items) [.ref (h 0), .int l1] (mw G h z_thrown z_s z_kept z_isKept res.2.1 res.2.2.1 res.2.2.2.1 z_troubles z_troubleSorts z_troubleNumbers z_asked res.2.2.2.2.1 res.2.2.2.2.2.1 res.2.2.2.2.2.2.1 res.2.2.2.2.2.2.2 z_types z_typeCounts z_typeMany z_text z_signs z_at z_lacks z_clauses z_begun z_letters z_firsts z_seconds z_aside z_sorts z_sizes z_items) (some (.int res.1)) 0 0 := by
  refine MX.of (plainFor_of_name (by decide)) (Nat.le_of_ble_eq_true rfl) ?_
  intro p e s m below meth c A X E hI ls hl
  obtain ⟨hx, hb, hml, hown, hts, hr, hlk⟩ := id X
  have hl : lv_has ls 2 [(0, .ref (h 0)), (1, .int l1)] := hl
  unfold f_X10_classesBy at hf
  refine lv_aload_n (pc := 0) hx hb dX10_classesBy_0 rfl (lv_at hl 0 rfl) ?_
  refine lv_iload_n (pc := 1) hx hb dX10_classesBy_1 rfl (lv_at hl 1 rfl) ?_
  obtain ⟨t1, e1, hf⟩ := q_ob hf
  refine x_cVs (pc := 2) (st1 := []) (w1 := (mw G h z_thrown z_s z_kept z_isKept t1.1 t1.2.1 t1.2.2.1 z_troubles z_troubleSorts z_troubleNumbers z_asked t1.2.2.2.1 t1.2.2.2.2.1 t1.2.2.2.2.2.1 t1.2.2.2.2.2.2 z_types z_typeCounts z_typeMany z_text z_signs z_at z_lacks z_clauses z_begun z_letters z_firsts z_seconds z_aside z_sorts z_sizes z_items)) X E hI (c_X10_allClasses l G h e1) kv_X10_204 hd_X10_allClasses ⟨rfl, rfl⟩ (by decide) 0 rfl rfl rfl rfl hl.1 rfl (Nat.le_of_ble_eq_true rfl) dX10_classesBy_2 ⟨Nat.le_of_ble_eq_true rfl, Nat.le_of_ble_eq_true rfl⟩ rfl (fun H locs hI => ?_)
  refine lv_aload_n (pc := 5) hx hb dX10_classesBy_5 rfl (lv_at hl 0 rfl) ?_
  refine x_get (pc := 6) X E hI inX10 0 rfl rfl 14 (by decide) tw_4_3 rfl dX10_classesBy_6 ?_
  obtain rfl := Option.some.inj hf
  exact x_iret X hI dX10_classesBy_9

abbrev rm_X10_told : Room := { frames := 8, cells := 0, slots := 0, locals := 175 }
set_option maxHeartbeats 4000000 in
set_option maxRecDepth 100000 in
theorem c_X10_told (l : Launch) (G : GX) (h : Nat → Nat) {l1 : Int32} {z_s : Nat → Int32} {z_moveMany : Int32} {z_moves : Nat → Int32} {z_hands : Nat → Int32} {z_paint : Nat → Int32} {z_leasts : Nat → Int32} {z_isSeen : Nat → Int32} {z_classMany : Int32} {z_thrown : Int32} {z_kept : Nat → Int32} {z_isKept : Int32} {z_troubles : Int32} {z_troubleSorts : Nat → Int32} {z_troubleNumbers : Nat → Int32} {z_asked : Nat → Int32} {z_types : Nat → Int32} {z_typeCounts : Nat → Int32} {z_typeMany : Int32} {z_text : Nat → Int32} {z_signs : Int32} {z_at : Int32} {z_lacks : Int32} {z_clauses : Int32} {z_begun : Int32} {z_letters : Nat → Int32} {z_firsts : Nat → Int32} {z_seconds : Nat → Int32} {z_aside : Nat → Int32} {z_sorts : Nat → Int32} {z_sizes : Nat → Int32} {z_items : Nat → Int64} {res : Int32 × Int32 × (Nat → Int32) × (Nat → Int32) × (Nat → Int32) × (Nat → Int32) × (Nat → Int32) × Int32} (hf : f_X10_told l1 z_s z_moveMany z_moves z_hands z_paint z_leasts z_isSeen z_classMany = some res) : MX l yX10_told cX10_told 2 (some .int) rm_X10_told G (mw G h z_thrown z_s z_kept z_isKept z_moveMany z_moves z_hands z_troubles z_troubleSorts z_troubleNumbers z_asked z_paint z_leasts z_isSeen z_classMany z_types z_typeCounts z_typeMany z_text z_signs z_at z_lacks z_clauses z_begun z_letters z_firsts z_seconds z_aside z_sorts z_sizes z_items) [.ref (h 0), .int l1] (mw G h z_thrown z_s z_kept z_isKept res.2.1 res.2.2.1 res.2.2.2.1 z_troubles z_troubleSorts z_troubleNumbers z_asked res.2.2.2.2.1 res.2.2.2.2.2.1 res.2.2.2.2.2.2.1 res.2.2.2.2.2.2.2 z_types z_typeCounts z_typeMany z_text z_signs z_at z_lacks z_clauses z_begun z_letters z_firsts z_seconds z_aside z_sorts z_sizes z_items) (some (.int res.1)) 0 0 := by
  refine MX.of (plainFor_of_name (by decide)) (Nat.le_of_ble_eq_true rfl) ?_
  intro p e s m below meth c A X E hI ls hl
  obtain ⟨hx, hb, hml, hown, hts, hr, hlk⟩ := id X
  have hl : lv_has ls 2 [(0, .ref (h 0)), (1, .int l1)] := hl
  unfold f_X10_told at hf
  refine lv_aload_n (pc := 0) hx hb dX10_told_0 rfl (lv_at hl 0 rfl) ?_
  obtain ⟨t1, e1, hf⟩ := q_ob hf
  refine x_cVs (pc := 1) (st1 := []) (w1 := (mw G h z_thrown z_s z_kept z_isKept t1.1 t1.2.1 t1.2.2 z_troubles z_troubleSorts z_troubleNumbers z_asked z_paint z_leasts z_isSeen z_classMany z_types z_typeCounts z_typeMany z_text z_signs z_at z_lacks z_clauses z_begun z_letters z_firsts z_seconds z_aside z_sorts z_sizes z_items)) X E hI (c_X10_moves_ l G h e1) kv_X10_163 hd_X10_moves_ ⟨rfl, rfl⟩ (by decide) 0 rfl rfl rfl rfl hl.1 rfl (Nat.le_of_ble_eq_true rfl) dX10_told_1 ⟨Nat.le_of_ble_eq_true rfl, Nat.le_of_ble_eq_true rfl⟩ rfl (fun H locs hI => ?_)
  refine lv_iload_n (pc := 4) hx hb dX10_told_4 rfl (lv_at hl 1 rfl) ?_
  rcases Decidable.em (l1 = 0) with c2 | c2
  · refine lv_tableIn (pc := 5) (tgt := 56) hx hb dX10_told_5 (by rw [c2]; decide) (by rw [c2]; decide) (by rw [c2]; rfl) (by decide) ?_
    have hf := q_ip c2 hf
    refine lv_aload_n (pc := 56) hx hb dX10_told_56 rfl (lv_at hl 0 rfl) ?_
    refine x_get (pc := 57) X E hI inX10 0 rfl rfl 1 (by decide) tw_3_230 rfl dX10_told_57 ?_
    refine lv_iconst (pc := 60) (v := 0) hx hb dX10_told_60 (by decide) ?_
    obtain ⟨t3, e3, hf⟩ := q_ob hf
    refine x_iald (pc := 61) X E hI 1 rfl e3 dX10_told_61 ?_
    obtain rfl := Option.some.inj hf
    exact x_iret X hI dX10_told_62
  · have hf := q_in c2 hf
    rcases Decidable.em (l1 = 1) with c4 | c4
    · refine lv_tableIn (pc := 5) (tgt := 63) hx hb dX10_told_5 (by rw [c4]; decide) (by rw [c4]; decide) (by rw [c4]; rfl) (by decide) ?_
      have hf := q_ip c4 hf
      refine lv_aload_n (pc := 63) hx hb dX10_told_63 rfl (lv_at hl 0 rfl) ?_
      refine x_get (pc := 64) X E hI inX10 0 rfl rfl 1 (by decide) tw_3_230 rfl dX10_told_64 ?_
      refine lv_iconst (pc := 67) (v := 1) hx hb dX10_told_67 (by decide) ?_
      obtain ⟨t5, e5, hf⟩ := q_ob hf
      refine x_iald (pc := 68) X E hI 1 rfl e5 dX10_told_68 ?_
      obtain rfl := Option.some.inj hf
      exact x_iret X hI dX10_told_69
    · have hf := q_in c4 hf
      rcases Decidable.em (l1 = 2) with c6 | c6
      · refine lv_tableIn (pc := 5) (tgt := 70) hx hb dX10_told_5 (by rw [c6]; decide) (by rw [c6]; decide) (by rw [c6]; rfl) (by decide) ?_
        have hf := q_ip c6 hf
        refine lv_aload_n (pc := 70) hx hb dX10_told_70 rfl (lv_at hl 0 rfl) ?_
        refine x_get (pc := 71) X E hI inX10 0 rfl rfl 1 (by decide) tw_3_230 rfl dX10_told_71 ?_
        refine lv_iconst (pc := 74) (v := 2) hx hb dX10_told_74 (by decide) ?_
        obtain ⟨t7, e7, hf⟩ := q_ob hf
        refine x_iald (pc := 75) X E hI 1 rfl e7 dX10_told_75 ?_
        obtain rfl := Option.some.inj hf
        exact x_iret X hI dX10_told_76
      · have hf := q_in c6 hf
        rcases Decidable.em (l1 = 3) with c8 | c8
        · refine lv_tableIn (pc := 5) (tgt := 77) hx hb dX10_told_5 (by rw [c8]; decide) (by rw [c8]; decide) (by rw [c8]; rfl) (by decide) ?_
          have hf := q_ip c8 hf
          refine lv_aload_n (pc := 77) hx hb dX10_told_77 rfl (lv_at hl 0 rfl) ?_
          refine x_get (pc := 78) X E hI inX10 0 rfl rfl 4 (by decide) tw_3_233 rfl dX10_told_78 ?_
          obtain rfl := Option.some.inj hf
          exact x_iret X hI dX10_told_81
        · have hf := q_in c8 hf
          rcases Decidable.em (l1 = 4) with c9 | c9
          · refine lv_tableIn (pc := 5) (tgt := 82) hx hb dX10_told_5 (by rw [c9]; decide) (by rw [c9]; decide) (by rw [c9]; rfl) (by decide) ?_
            have hf := q_ip c9 hf
            refine lv_aload_n (pc := 82) hx hb dX10_told_82 rfl (lv_at hl 0 rfl) ?_
            refine lv_iconst (pc := 83) (v := 0) hx hb dX10_told_83 (by decide) ?_
            obtain ⟨t10, e10, hf⟩ := q_ob hf
            refine x_cVs (pc := 84) (st1 := [.int t10]) (w1 := (mw G h z_thrown z_s z_kept z_isKept t1.1 t1.2.1 t1.2.2 z_troubles z_troubleSorts z_troubleNumbers z_asked z_paint z_leasts z_isSeen z_classMany z_types z_typeCounts z_typeMany z_text z_signs z_at z_lacks z_clauses z_begun z_letters z_firsts z_seconds z_aside z_sorts z_sizes z_items)) X E hI (c_X10_manyOf l G h e10) kv_X10_180 hd_X10_manyOf ⟨rfl, rfl⟩ (by decide) 0 rfl rfl rfl rfl hl.1 rfl (Nat.le_of_ble_eq_true rfl) dX10_told_84 ⟨Nat.le_of_ble_eq_true rfl, Nat.le_of_ble_eq_true rfl⟩ rfl (fun H locs hI => ?_)
            obtain rfl := Option.some.inj hf
            exact x_iret X hI dX10_told_87
          · have hf := q_in c9 hf
            rcases Decidable.em (l1 = 5) with c11 | c11
            · refine lv_tableIn (pc := 5) (tgt := 88) hx hb dX10_told_5 (by rw [c11]; decide) (by rw [c11]; decide) (by rw [c11]; rfl) (by decide) ?_
              have hf := q_ip c11 hf
              refine lv_aload_n (pc := 88) hx hb dX10_told_88 rfl (lv_at hl 0 rfl) ?_
              obtain ⟨t12, e12, hf⟩ := q_ob hf
              refine x_cVs (pc := 89) (st1 := [.int t12]) (w1 := (mw G h z_thrown z_s z_kept z_isKept t1.1 t1.2.1 t1.2.2 z_troubles z_troubleSorts z_troubleNumbers z_asked z_paint z_leasts z_isSeen z_classMany z_types z_typeCounts z_typeMany z_text z_signs z_at z_lacks z_clauses z_begun z_letters z_firsts z_seconds z_aside z_sorts z_sizes z_items)) X E hI (c_X10_paintings l G h e12) kv_X10_186 hd_X10_paintings ⟨rfl, rfl⟩ (by decide) 0 rfl rfl rfl rfl hl.1 rfl (Nat.le_of_ble_eq_true rfl) dX10_told_89 ⟨Nat.le_of_ble_eq_true rfl, Nat.le_of_ble_eq_true rfl⟩ rfl (fun H locs hI => ?_)
              obtain rfl := Option.some.inj hf
              exact x_iret X hI dX10_told_92
            · have hf := q_in c11 hf
              rcases Decidable.em (l1 = 6) with c13 | c13
              · refine lv_tableIn (pc := 5) (tgt := 93) hx hb dX10_told_5 (by rw [c13]; decide) (by rw [c13]; decide) (by rw [c13]; rfl) (by decide) ?_
                have hf := q_ip c13 hf
                refine lv_aload_n (pc := 93) hx hb dX10_told_93 rfl (lv_at hl 0 rfl) ?_
                refine lv_iconst (pc := 94) (v := 0) hx hb dX10_told_94 (by decide) ?_
                obtain ⟨t14, e14, hf⟩ := q_ob hf
                refine x_cVs (pc := 95) (st1 := [.int t14.1]) (w1 := (mw G h z_thrown z_s z_kept z_isKept t14.2.1 t14.2.2.1 t14.2.2.2.1 z_troubles z_troubleSorts z_troubleNumbers z_asked t14.2.2.2.2.1 t14.2.2.2.2.2.1 t14.2.2.2.2.2.2.1 t14.2.2.2.2.2.2.2 z_types z_typeCounts z_typeMany z_text z_signs z_at z_lacks z_clauses z_begun z_letters z_firsts z_seconds z_aside z_sorts z_sizes z_items)) X E hI (c_X10_classesBy l G h e14) kv_X10_210 hd_X10_classesBy ⟨rfl, rfl⟩ (by decide) 0 rfl rfl rfl rfl hl.1 rfl (Nat.le_of_ble_eq_true rfl) dX10_told_95 ⟨Nat.le_of_ble_eq_true rfl, Nat.le_of_ble_eq_true rfl⟩ rfl (fun H locs hI => ?_)
                obtain rfl := Option.some.inj hf
                exact x_iret X hI dX10_told_98
              · have hf := q_in c13 hf
                rcases Decidable.em (l1 = 7) with c15 | c15
                · refine lv_tableIn (pc := 5) (tgt := 99) hx hb dX10_told_5 (by rw [c15]; decide) (by rw [c15]; decide) (by rw [c15]; rfl) (by decide) ?_
                  have hf := q_ip c15 hf
                  refine lv_aload_n (pc := 99) hx hb dX10_told_99 rfl (lv_at hl 0 rfl) ?_
                  refine lv_iconst (pc := 100) (v := 1) hx hb dX10_told_100 (by decide) ?_
                  obtain ⟨t16, e16, hf⟩ := q_ob hf
                  refine x_cVs (pc := 101) (st1 := [.int t16.1]) (w1 := (mw G h z_thrown z_s z_kept z_isKept t16.2.1 t16.2.2.1 t16.2.2.2.1 z_troubles z_troubleSorts z_troubleNumbers z_asked t16.2.2.2.2.1 t16.2.2.2.2.2.1 t16.2.2.2.2.2.2.1 t16.2.2.2.2.2.2.2 z_types z_typeCounts z_typeMany z_text z_signs z_at z_lacks z_clauses z_begun z_letters z_firsts z_seconds z_aside z_sorts z_sizes z_items)) X E hI (c_X10_classesBy l G h e16) kv_X10_210 hd_X10_classesBy ⟨rfl, rfl⟩ (by decide) 0 rfl rfl rfl rfl hl.1 rfl (Nat.le_of_ble_eq_true rfl) dX10_told_101 ⟨Nat.le_of_ble_eq_true rfl, Nat.le_of_ble_eq_true rfl⟩ rfl (fun H locs hI => ?_)
                  obtain rfl := Option.some.inj hf
                  exact x_iret X hI dX10_told_104
                · have hf := q_in c15 hf
                  rcases Decidable.em (l1 = 8) with c17 | c17
                  · refine lv_tableIn (pc := 5) (tgt := 105) hx hb dX10_told_5 (by rw [c17]; decide) (by rw [c17]; decide) (by rw [c17]; rfl) (by decide) ?_
                    have hf := q_ip c17 hf
                    refine lv_aload_n (pc := 105) hx hb dX10_told_105 rfl (lv_at hl 0 rfl) ?_
                    obtain ⟨t18, e18, hf⟩ := q_ob hf
                    refine x_cVs (pc := 106) (st1 := [.int t18.1]) (w1 := (mw G h z_thrown z_s z_kept z_isKept t18.2.1 t18.2.2.1 t18.2.2.2.1 z_troubles z_troubleSorts z_troubleNumbers z_asked t18.2.2.2.2.1 t18.2.2.2.2.2.1 t18.2.2.2.2.2.2.1 t18.2.2.2.2.2.2.2 z_types z_typeCounts z_typeMany z_text z_signs z_at z_lacks z_clauses z_begun z_letters z_firsts z_seconds z_aside z_sorts z_sizes z_items)) X E hI (c_X10_pairs l G h e18) kv_X10_213 hd_X10_pairs ⟨rfl, rfl⟩ (by decide) 0 rfl rfl rfl rfl hl.1 rfl (Nat.le_of_ble_eq_true rfl) dX10_told_106 ⟨Nat.le_of_ble_eq_true rfl, Nat.le_of_ble_eq_true rfl⟩ rfl (fun H locs hI => ?_)
                    obtain rfl := Option.some.inj hf
                    exact x_iret X hI dX10_told_109
                  · have hf := q_in c17 hf
                    refine lv_tableOut (pc := 5) (tgt := 110) hx hb dX10_told_5 (q_out_0_8 c2 c4 c6 c8 c9 c11 c13 c15 c17) (by decide) ?_
                    refine lv_iconst (pc := 110) (v := (-1)) hx hb dX10_told_110 (by decide) ?_
                    obtain rfl := Option.some.inj hf
                    exact x_iret X hI dX10_told_111

abbrev rm_X10_comes : Room := { frames := 0, cells := 0, slots := 0, locals := 0 }
set_option maxHeartbeats 4000000 in
set_option maxRecDepth 100000 in
theorem k_X10_comes_L2 {p : Program} {l : Launch} {e : Env} {s : State} {m : MethodId} {args : Array Value} {below : List Frame} {meth : Method} {c : Code} {A : Nat → Prop} {G : GX} {h : Nat → Nat} {l1 : Int32} {z_thrown : Int32} {z_s : Nat → Int32} {z_kept : Nat → Int32} {z_isKept : Int32} {z_moveMany : Int32} {z_moves : Nat → Int32} {z_hands : Nat → Int32} {z_troubles : Int32} {z_troubleSorts : Nat → Int32} {z_troubleNumbers : Nat → Int32} {z_asked : Nat → Int32} {z_paint : Nat → Int32} {z_leasts : Nat → Int32} {z_isSeen : Nat → Int32} {z_classMany : Int32} {z_types : Nat → Int32} {z_typeCounts : Nat → Int32} {z_typeMany : Int32} {z_text : Nat → Int32} {z_signs : Int32} {z_at : Int32} {z_lacks : Int32} {z_clauses : Int32} {z_begun : Int32} {z_letters : Nat → Int32} {z_firsts : Nat → Int32} {z_seconds : Nat → Int32} {z_aside : Nat → Int32} {z_sorts : Nat → Int32} {z_sizes : Nat → Int32} {z_items : Nat → Int64} {K : Int32 → Option ((Nat → Int32) × (Nat → Int32) × Int32)} {res : (Nat → Int32) × (Nat → Int32) × Int32} (X : CX RX10 cX10_comes 4 none p s m args meth c) (E : EX G A s)
    (hK : ∀ (l2 : Int32) (H : Heap) (locs : List Loc) (ls : Array Slot), IN A G (mw G h z_thrown z_s z_kept z_isKept z_moveMany z_moves z_hands z_troubles z_troubleSorts z_troubleNumbers z_asked z_paint z_leasts z_isSeen z_classMany z_types z_typeCounts z_typeMany z_text z_signs z_at z_lacks z_clauses z_begun z_letters z_firsts z_seconds z_aside z_sorts z_sizes z_items) s H locs → lv_has ls 4 [(0, .ref (h 0)), (1, .int l1), (2, .int l2)] → K l2 = some res → W p l e rm_X10_comes s m args below meth c H locs 0 0 (MQ below (QX G A (mw G h z_thrown z_s z_kept z_isKept z_moveMany z_moves z_hands z_troubles z_troubleSorts z_troubleNumbers z_asked z_paint z_leasts z_isSeen z_classMany res.1 res.2.1 res.2.2 z_text z_signs z_at z_lacks z_clauses z_begun z_letters z_firsts z_seconds z_aside z_sorts z_sizes z_items) none) args s 0 0 A) (F0 m 26 ls [])) :
    ∀ {k : Nat} {l2 : Int32} {H : Heap} {locs : List Loc} {ls : Array Slot}, IN A G (mw G h z_thrown z_s z_kept z_isKept z_moveMany z_moves z_hands z_troubles z_troubleSorts z_troubleNumbers z_asked z_paint z_leasts z_isSeen z_classMany z_types z_typeCounts z_typeMany z_text z_signs z_at z_lacks z_clauses z_begun z_letters z_firsts z_seconds z_aside z_sorts z_sizes z_items) s H locs → lv_has ls 4 [(0, .ref (h 0)), (1, .int l1), (2, .int l2)] → f_X10_comes_L2 l1 z_types z_typeMany K k l2 = some res → W p l e rm_X10_comes s m args below meth c H locs 0 0 (MQ below (QX G A (mw G h z_thrown z_s z_kept z_isKept z_moveMany z_moves z_hands z_troubles z_troubleSorts z_troubleNumbers z_asked z_paint z_leasts z_isSeen z_classMany res.1 res.2.1 res.2.2 z_text z_signs z_at z_lacks z_clauses z_begun z_letters z_firsts z_seconds z_aside z_sorts z_sizes z_items) none) args s 0 0 A) (F0 m 2 ls []) := by
  obtain ⟨hx, hb, hml, hown, hts, hr, hlk⟩ := id X
  intro k
  induction k with
  | zero => intro l2 H locs ls hI hl hf; exact nomatch (show none = some res from hf)
  | succ k ih =>
    intro l2 H locs ls hI hl hf
    rw [f_X10_comes_L2] at hf
    refine lv_iload_n (pc := 2) hx hb dX10_comes_2 rfl (lv_at hl 2 rfl) ?_
    refine lv_aload_n (pc := 3) hx hb dX10_comes_3 rfl (lv_at hl 0 rfl) ?_
    refine x_get (pc := 4) X E hI inX10 0 rfl rfl 17 (by decide) tw_4_6 rfl dX10_comes_4 ?_
    refine lv_icmp_ge (pc := 7) (tgt := 26) hx hb dX10_comes_7 (by decide) (fun c1 => ?_) (fun c1 => ?_)
    · have hf := q_ip c1 hf
      exact hK _ _ _ _ hI (lv_sub hl [0, 1, 2] rfl) hf
    · have hf := q_in c1 hf
      refine lv_aload_n (pc := 10) hx hb dX10_comes_10 rfl (lv_at hl 0 rfl) ?_
      refine x_get (pc := 11) X E hI inX10 0 rfl rfl 15 (by decide) tw_4_4 rfl dX10_comes_11 ?_
      refine lv_iload_n (pc := 14) hx hb dX10_comes_14 rfl (lv_at hl 2 rfl) ?_
      obtain ⟨t2, e2, hf⟩ := q_ob hf
      refine x_iald (pc := 15) X E hI 11 rfl e2 dX10_comes_15 ?_
      refine lv_iload_n (pc := 16) hx hb dX10_comes_16 rfl (lv_at hl 1 rfl) ?_
      refine lv_icmp_ge (pc := 17) (tgt := 26) hx hb dX10_comes_17 (by decide) (fun c3 => ?_) (fun c3 => ?_)
      · have hf := q_ip c3 hf
        exact hK _ _ _ _ hI (lv_sub hl [0, 1, 2] rfl) hf
      · have hf := q_in c3 hf
        refine lv_iinc (pc := 20) (v := l2 + 1) (lv' := [(2, .int (l2 + 1)), (0, .ref (h 0)), (1, .int l1)]) hx hb dX10_comes_20 hl (k := 2) rfl rfl (by decide) rfl (fun ls hl => ?_)
        refine lv_goto (pc := 23) (tgt := 2) hx hb dX10_comes_23 (by decide) ?_
        exact ih hI (lv_sub hl [1, 2, 0] rfl) hf

set_option maxHeartbeats 4000000 in
set_option maxRecDepth 100000 in
theorem k_X10_comes_L49 {p : Program} {l : Launch} {e : Env} {s : State} {m : MethodId} {args : Array Value} {below : List Frame} {meth : Method} {c : Code} {A : Nat → Prop} {G : GX} {h : Nat → Nat} {l1 : Int32} {l2 : Int32} {z_thrown : Int32} {z_s : Nat → Int32} {z_kept : Nat → Int32} {z_isKept : Int32} {z_moveMany : Int32} {z_moves : Nat → Int32} {z_hands : Nat → Int32} {z_troubles : Int32} {z_troubleSorts : Nat → Int32} {z_troubleNumbers : Nat → Int32} {z_asked : Nat → Int32} {z_paint : Nat → Int32} {z_leasts : Nat → Int32} {z_isSeen : Nat → Int32} {z_classMany : Int32} {z_typeMany : Int32} {z_text : Nat → Int32} {z_signs : Int32} {z_at : Int32} {z_lacks : Int32} {z_clauses : Int32} {z_begun : Int32} {z_letters : Nat → Int32} {z_firsts : Nat → Int32} {z_seconds : Nat → Int32} {z_aside : Nat → Int32} {z_sorts : Nat → Int32} {z_sizes : Nat → Int32} {z_items : Nat → Int64} {K : Int32 → (Nat → Int32) → (Nat → Int32) → Option ((Nat → Int32) × (Nat → Int32) × Int32)} {res : (Nat → Int32) × (Nat → Int32) × Int32} (X : CX RX10 cX10_comes 4 none p s m args meth c) (E : EX G A s)
    (hK : ∀ (l3 : Int32) (z_types : (Nat → Int32)) (z_typeCounts : (Nat → Int32)) (H : Heap) (locs : List Loc) (ls : Array Slot), IN A G (mw G h z_thrown z_s z_kept z_isKept z_moveMany z_moves z_hands z_troubles z_troubleSorts z_troubleNumbers z_asked z_paint z_leasts z_isSeen z_classMany z_types z_typeCounts z_typeMany z_text z_signs z_at z_lacks z_clauses z_begun z_letters z_firsts z_seconds z_aside z_sorts z_sizes z_items) s H locs → lv_has ls 4 [(0, .ref (h 0)), (1, .int l1), (2, .int l2), (3, .int l3)] → K l3 z_types z_typeCounts = some res → W p l e rm_X10_comes s m args below meth c H locs 0 0 (MQ below (QX G A (mw G h z_thrown z_s z_kept z_isKept z_moveMany z_moves z_hands z_troubles z_troubleSorts z_troubleNumbers z_asked z_paint z_leasts z_isSeen z_classMany res.1 res.2.1 res.2.2 z_text z_signs z_at z_lacks z_clauses z_begun z_letters z_firsts z_seconds z_aside z_sorts z_sizes z_items) none) args s 0 0 A) (F0 m 88 ls [])) :
    ∀ {k : Nat} {l3 : Int32} {z_types : (Nat → Int32)} {z_typeCounts : (Nat → Int32)} {H : Heap} {locs : List Loc} {ls : Array Slot}, IN A G (mw G h z_thrown z_s z_kept z_isKept z_moveMany z_moves z_hands z_troubles z_troubleSorts z_troubleNumbers z_asked z_paint z_leasts z_isSeen z_classMany z_types z_typeCounts z_typeMany z_text z_signs z_at z_lacks z_clauses z_begun z_letters z_firsts z_seconds z_aside z_sorts z_sizes z_items) s H locs → lv_has ls 4 [(0, .ref (h 0)), (1, .int l1), (2, .int l2), (3, .int l3)] → f_X10_comes_L49 l1 l2 K k l3 z_types z_typeCounts = some res → W p l e rm_X10_comes s m args below meth c H locs 0 0 (MQ below (QX G A (mw G h z_thrown z_s z_kept z_isKept z_moveMany z_moves z_hands z_troubles z_troubleSorts z_troubleNumbers z_asked z_paint z_leasts z_isSeen z_classMany res.1 res.2.1 res.2.2 z_text z_signs z_at z_lacks z_clauses z_begun z_letters z_firsts z_seconds z_aside z_sorts z_sizes z_items) none) args s 0 0 A) (F0 m 49 ls []) := by
  obtain ⟨hx, hb, hml, hown, hts, hr, hlk⟩ := id X
  intro k
  induction k with
  | zero => intro l3 z_types z_typeCounts H locs ls hI hl hf; exact nomatch (show none = some res from hf)
  | succ k ih =>
    intro l3 z_types z_typeCounts H locs ls hI hl hf
    rw [f_X10_comes_L49] at hf
    refine lv_iload_n (pc := 49) hx hb dX10_comes_49 rfl (lv_at hl 3 rfl) ?_
    refine lv_iload_n (pc := 50) hx hb dX10_comes_50 rfl (lv_at hl 2 rfl) ?_
    refine lv_icmp_le (pc := 51) (tgt := 88) hx hb dX10_comes_51 (by decide) (fun c1 => ?_) (fun c1 => ?_)
    · have hf := q_ip c1 hf
      exact hK _ _ _ _ _ _ hI (lv_sub hl [0, 1, 2, 3] rfl) hf
    · have hf := q_in c1 hf
      refine lv_aload_n (pc := 54) hx hb dX10_comes_54 rfl (lv_at hl 0 rfl) ?_
      refine x_get (pc := 55) X E hI inX10 0 rfl rfl 15 (by decide) tw_4_4 rfl dX10_comes_55 ?_
      refine lv_iload_n (pc := 58) hx hb dX10_comes_58 rfl (lv_at hl 3 rfl) ?_
      refine lv_aload_n (pc := 59) hx hb dX10_comes_59 rfl (lv_at hl 0 rfl) ?_
      refine x_get (pc := 60) X E hI inX10 0 rfl rfl 15 (by decide) tw_4_4 rfl dX10_comes_60 ?_
      refine lv_iload_n (pc := 63) hx hb dX10_comes_63 rfl (lv_at hl 3 rfl) ?_
      refine lv_iconst (pc := 64) (v := 1) hx hb dX10_comes_64 (by decide) ?_
      refine lv_isub (pc := 65) hx hb dX10_comes_65 ?_
      obtain ⟨t2, e2, hf⟩ := q_ob hf
      refine x_iald (pc := 66) X E hI 11 rfl e2 dX10_comes_66 ?_
      obtain ⟨t3, e3, hf⟩ := q_ob hf
      refine x_iast (pc := 67) (w' := (mw G h z_thrown z_s z_kept z_isKept z_moveMany z_moves z_hands z_troubles z_troubleSorts z_troubleNumbers z_asked z_paint z_leasts z_isSeen z_classMany t3 z_typeCounts z_typeMany z_text z_signs z_at z_lacks z_clauses z_begun z_letters z_firsts z_seconds z_aside z_sorts z_sizes z_items)) X E hI 11 rfl e3 rfl dX10_comes_67 (fun H locs hI => ?_)
      refine lv_aload_n (pc := 68) hx hb dX10_comes_68 rfl (lv_at hl 0 rfl) ?_
      refine x_get (pc := 69) X E hI inX10 0 rfl rfl 16 (by decide) tw_4_5 rfl dX10_comes_69 ?_
      refine lv_iload_n (pc := 72) hx hb dX10_comes_72 rfl (lv_at hl 3 rfl) ?_
      refine lv_aload_n (pc := 73) hx hb dX10_comes_73 rfl (lv_at hl 0 rfl) ?_
      refine x_get (pc := 74) X E hI inX10 0 rfl rfl 16 (by decide) tw_4_5 rfl dX10_comes_74 ?_
      refine lv_iload_n (pc := 77) hx hb dX10_comes_77 rfl (lv_at hl 3 rfl) ?_
      refine lv_iconst (pc := 78) (v := 1) hx hb dX10_comes_78 (by decide) ?_
      refine lv_isub (pc := 79) hx hb dX10_comes_79 ?_
      obtain ⟨t4, e4, hf⟩ := q_ob hf
      refine x_iald (pc := 80) X E hI 12 rfl e4 dX10_comes_80 ?_
      obtain ⟨t5, e5, hf⟩ := q_ob hf
      refine x_iast (pc := 81) (w' := (mw G h z_thrown z_s z_kept z_isKept z_moveMany z_moves z_hands z_troubles z_troubleSorts z_troubleNumbers z_asked z_paint z_leasts z_isSeen z_classMany t3 t5 z_typeMany z_text z_signs z_at z_lacks z_clauses z_begun z_letters z_firsts z_seconds z_aside z_sorts z_sizes z_items)) X E hI 12 rfl e5 rfl dX10_comes_81 (fun H locs hI => ?_)
      refine lv_iinc (pc := 82) (v := l3 + (-1)) (lv' := [(3, .int (l3 + (-1))), (0, .ref (h 0)), (1, .int l1), (2, .int l2)]) hx hb dX10_comes_82 hl (k := 3) rfl rfl (by decide) rfl (fun ls hl => ?_)
      refine lv_goto (pc := 85) (tgt := 49) hx hb dX10_comes_85 (by decide) ?_
      exact ih hI (lv_sub hl [1, 2, 3, 0] rfl) hf

set_option maxHeartbeats 4000000 in
set_option maxRecDepth 100000 in
theorem c_X10_comes (l : Launch) (G : GX) (h : Nat → Nat) {l1 : Int32} {z_types : Nat → Int32} {z_typeCounts : Nat → Int32} {z_typeMany : Int32} {z_thrown : Int32} {z_s : Nat → Int32} {z_kept : Nat → Int32} {z_isKept : Int32} {z_moveMany : Int32} {z_moves : Nat → Int32} {z_hands : Nat → Int32} {z_troubles : Int32} {z_troubleSorts : Nat → Int32} {z_troubleNumbers : Nat → Int32} {z_asked : Nat → Int32} {z_paint : Nat → Int32} {z_leasts : Nat → Int32} {z_isSeen : Nat → Int32} {z_classMany : Int32} {z_text : Nat → Int32} {z_signs : Int32} {z_at : Int32} {z_lacks : Int32} {z_clauses : Int32} {z_begun : Int32} {z_letters : Nat → Int32} {z_firsts : Nat → Int32} {z_seconds : Nat → Int32} {z_aside : Nat → Int32} {z_sorts : Nat → Int32} {z_sizes : Nat → Int32} {z_items : Nat → Int64} {res : (Nat → Int32) × (Nat → Int32) × Int32} (hf : f_X10_comes l1 z_types z_typeCounts z_typeMany = some res) : MX l yX10_comes cX10_comes 4 none rm_X10_comes G (mw G h z_thrown z_s z_kept z_isKept z_moveMany z_moves z_hands z_troubles z_troubleSorts z_troubleNumbers z_asked z_paint z_leasts z_isSeen z_classMany z_types z_typeCounts z_typeMany z_text z_signs z_at z_lacks z_clauses z_begun z_letters z_firsts z_seconds z_aside z_sorts z_sizes z_items) [.ref (h 0), .int l1] (mw G h z_thrown z_s z_kept z_isKept z_moveMany z_moves z_hands z_troubles z_troubleSorts z_troubleNumbers z_asked z_paint z_leasts z_isSeen z_classMany res.1 res.2.1 res.2.2 z_text z_signs z_at z_lacks z_clauses z_begun z_letters z_firsts z_seconds z_aside z_sorts z_sizes z_items) none 0 0 := by
  refine MX.of (plainFor_of_name (by decide)) (Nat.le_of_ble_eq_true rfl) ?_
  intro p e s m below meth c A X E hI ls hl
  obtain ⟨hx, hb, hml, hown, hts, hr, hlk⟩ := id X
  have hl : lv_has ls 4 [(0, .ref (h 0)), (1, .int l1)] := hl
  unfold f_X10_comes at hf
  refine lv_iconst (pc := 0) (v := 0) hx hb dX10_comes_0 (by decide) ?_
  refine lv_istore_n (pc := 1) (lv' := [(2, .int 0), (0, .ref (h 0)), (1, .int l1)]) hx hb dX10_comes_1 rfl hl (by decide) rfl (fun ls hl => ?_)
  refine k_X10_comes_L2 X E (fun l2_1 H locs ls hI hl hf => ?_) hI (lv_sub hl [1, 2, 0] rfl) hf
  refine lv_iload_n (pc := 26) hx hb dX10_comes_26 rfl (lv_at hl 2 rfl) ?_
  refine lv_aload_n (pc := 27) hx hb dX10_comes_27 rfl (lv_at hl 0 rfl) ?_
  refine x_get (pc := 28) X E hI inX10 0 rfl rfl 17 (by decide) tw_4_6 rfl dX10_comes_28 ?_
  refine lv_icmp_eq (pc := 31) (tgt := 44) hx hb dX10_comes_31 (by decide) (fun c2 => ?_) (fun c2 => ?_)
  · have hf := q_ip c2 hf
    refine lv_aload_n (pc := 44) hx hb dX10_comes_44 rfl (lv_at hl 0 rfl) ?_
    refine x_get (pc := 45) X E hI inX10 0 rfl rfl 17 (by decide) tw_4_6 rfl dX10_comes_45 ?_
    refine lv_istore_n (pc := 48) (lv' := [(3, .int z_typeMany), (0, .ref (h 0)), (1, .int l1), (2, .int l2_1)]) hx hb dX10_comes_48 rfl hl (by decide) rfl (fun ls hl => ?_)
    refine k_X10_comes_L49 X E (fun l3_3 z_types_3 z_typeCounts_3 H locs ls hI hl hf => ?_) hI (lv_sub hl [1, 2, 3, 0] rfl) hf
    refine lv_aload_n (pc := 88) hx hb dX10_comes_88 rfl (lv_at hl 0 rfl) ?_
    refine x_get (pc := 89) X E hI inX10 0 rfl rfl 15 (by decide) tw_4_4 rfl dX10_comes_89 ?_
    refine lv_iload_n (pc := 92) hx hb dX10_comes_92 rfl (lv_at hl 2 rfl) ?_
    refine lv_iload_n (pc := 93) hx hb dX10_comes_93 rfl (lv_at hl 1 rfl) ?_
    obtain ⟨t4, e4, hf⟩ := q_ob hf
    refine x_iast (pc := 94) (w' := (mw G h z_thrown z_s z_kept z_isKept z_moveMany z_moves z_hands z_troubles z_troubleSorts z_troubleNumbers z_asked z_paint z_leasts z_isSeen z_classMany t4 z_typeCounts_3 z_typeMany z_text z_signs z_at z_lacks z_clauses z_begun z_letters z_firsts z_seconds z_aside z_sorts z_sizes z_items)) X E hI 11 rfl e4 rfl dX10_comes_94 (fun H locs hI => ?_)
    refine lv_aload_n (pc := 95) hx hb dX10_comes_95 rfl (lv_at hl 0 rfl) ?_
    refine x_get (pc := 96) X E hI inX10 0 rfl rfl 16 (by decide) tw_4_5 rfl dX10_comes_96 ?_
    refine lv_iload_n (pc := 99) hx hb dX10_comes_99 rfl (lv_at hl 2 rfl) ?_
    refine lv_iconst (pc := 100) (v := 0) hx hb dX10_comes_100 (by decide) ?_
    obtain ⟨t5, e5, hf⟩ := q_ob hf
    refine x_iast (pc := 101) (w' := (mw G h z_thrown z_s z_kept z_isKept z_moveMany z_moves z_hands z_troubles z_troubleSorts z_troubleNumbers z_asked z_paint z_leasts z_isSeen z_classMany t4 t5 z_typeMany z_text z_signs z_at z_lacks z_clauses z_begun z_letters z_firsts z_seconds z_aside z_sorts z_sizes z_items)) X E hI 12 rfl e5 rfl dX10_comes_101 (fun H locs hI => ?_)
    refine lv_aload_n (pc := 102) hx hb dX10_comes_102 rfl (lv_at hl 0 rfl) ?_
    refine lv_dup (pc := 103) hx hb dX10_comes_103 rfl ?_
    refine x_get (pc := 104) X E hI inX10 0 rfl rfl 17 (by decide) tw_4_6 rfl dX10_comes_104 ?_
    refine lv_iconst (pc := 107) (v := 1) hx hb dX10_comes_107 (by decide) ?_
    refine lv_iadd (pc := 108) hx hb dX10_comes_108 ?_
    refine x_put (pc := 109) (w' := (mw G h z_thrown z_s z_kept z_isKept z_moveMany z_moves z_hands z_troubles z_troubleSorts z_troubleNumbers z_asked z_paint z_leasts z_isSeen z_classMany t4 t5 (z_typeMany + 1) z_text z_signs z_at z_lacks z_clauses z_begun z_letters z_firsts z_seconds z_aside z_sorts z_sizes z_items)) X E hI inX10 tyX10 tyX10_ok nmX10 0 rfl rfl 17 (by decide) tw_4_6 rfl rfl rfl (Nat.le_of_ble_eq_true rfl) rfl dX10_comes_109 (fun H locs hI => ?_)
    refine lv_aload_n (pc := 112) hx hb dX10_comes_112 rfl (lv_at hl 0 rfl) ?_
    refine x_get (pc := 113) X E hI inX10 0 rfl rfl 16 (by decide) tw_4_5 rfl dX10_comes_113 ?_
    refine lv_iload_n (pc := 116) hx hb dX10_comes_116 rfl (lv_at hl 2 rfl) ?_
    refine lv_dup2_11 (pc := 117) hx hb dX10_comes_117 rfl rfl ?_
    obtain ⟨t6, e6, hf⟩ := q_ob hf
    refine x_iald (pc := 118) X E hI 12 rfl e6 dX10_comes_118 ?_
    refine lv_iconst (pc := 119) (v := 1) hx hb dX10_comes_119 (by decide) ?_
    refine lv_iadd (pc := 120) hx hb dX10_comes_120 ?_
    obtain ⟨t7, e7, hf⟩ := q_ob hf
    refine x_iast (pc := 121) (w' := (mw G h z_thrown z_s z_kept z_isKept z_moveMany z_moves z_hands z_troubles z_troubleSorts z_troubleNumbers z_asked z_paint z_leasts z_isSeen z_classMany t4 t7 (z_typeMany + 1) z_text z_signs z_at z_lacks z_clauses z_begun z_letters z_firsts z_seconds z_aside z_sorts z_sizes z_items)) X E hI 12 rfl e7 rfl dX10_comes_121 (fun H locs hI => ?_)
    obtain rfl := Option.some.inj hf
    exact x_vret X hI dX10_comes_122
  · have hf := q_in c2 hf
    refine lv_aload_n (pc := 34) hx hb dX10_comes_34 rfl (lv_at hl 0 rfl) ?_
    refine x_get (pc := 35) X E hI inX10 0 rfl rfl 15 (by decide) tw_4_4 rfl dX10_comes_35 ?_
    refine lv_iload_n (pc := 38) hx hb dX10_comes_38 rfl (lv_at hl 2 rfl) ?_
    obtain ⟨t8, e8, hf⟩ := q_ob hf
    refine x_iald (pc := 39) X E hI 11 rfl e8 dX10_comes_39 ?_
    refine lv_iload_n (pc := 40) hx hb dX10_comes_40 rfl (lv_at hl 1 rfl) ?_
    refine lv_icmp_eq (pc := 41) (tgt := 112) hx hb dX10_comes_41 (by decide) (fun c9 => ?_) (fun c9 => ?_)
    · have hf := q_ip c9 hf
      refine lv_aload_n (pc := 112) hx hb dX10_comes_112 rfl (lv_at hl 0 rfl) ?_
      refine x_get (pc := 113) X E hI inX10 0 rfl rfl 16 (by decide) tw_4_5 rfl dX10_comes_113 ?_
      refine lv_iload_n (pc := 116) hx hb dX10_comes_116 rfl (lv_at hl 2 rfl) ?_
      refine lv_dup2_11 (pc := 117) hx hb dX10_comes_117 rfl rfl ?_
      obtain ⟨t10, e10, hf⟩ := q_ob hf
      refine x_iald (pc := 118) X E hI 12 rfl e10 dX10_comes_118 ?_
      refine lv_iconst (pc := 119) (v := 1) hx hb dX10_comes_119 (by decide) ?_
      refine lv_iadd (pc := 120) hx hb dX10_comes_120 ?_
      obtain ⟨t11, e11, hf⟩ := q_ob hf
      refine x_iast (pc := 121) (w' := (mw G h z_thrown z_s z_kept z_isKept z_moveMany z_moves z_hands z_troubles z_troubleSorts z_troubleNumbers z_asked z_paint z_leasts z_isSeen z_classMany z_types t11 z_typeMany z_text z_signs z_at z_lacks z_clauses z_begun z_letters z_firsts z_seconds z_aside z_sorts z_sizes z_items)) X E hI 12 rfl e11 rfl dX10_comes_121 (fun H locs hI => ?_)
      obtain rfl := Option.some.inj hf
      exact x_vret X hI dX10_comes_122
    · have hf := q_in c9 hf
      refine lv_aload_n (pc := 44) hx hb dX10_comes_44 rfl (lv_at hl 0 rfl) ?_
      refine x_get (pc := 45) X E hI inX10 0 rfl rfl 17 (by decide) tw_4_6 rfl dX10_comes_45 ?_
      refine lv_istore_n (pc := 48) (lv' := [(3, .int z_typeMany), (0, .ref (h 0)), (1, .int l1), (2, .int l2_1)]) hx hb dX10_comes_48 rfl hl (by decide) rfl (fun ls hl => ?_)
      refine k_X10_comes_L49 X E (fun l3_12 z_types_12 z_typeCounts_12 H locs ls hI hl hf => ?_) hI (lv_sub hl [1, 2, 3, 0] rfl) hf
      refine lv_aload_n (pc := 88) hx hb dX10_comes_88 rfl (lv_at hl 0 rfl) ?_
      refine x_get (pc := 89) X E hI inX10 0 rfl rfl 15 (by decide) tw_4_4 rfl dX10_comes_89 ?_
      refine lv_iload_n (pc := 92) hx hb dX10_comes_92 rfl (lv_at hl 2 rfl) ?_
      refine lv_iload_n (pc := 93) hx hb dX10_comes_93 rfl (lv_at hl 1 rfl) ?_
      obtain ⟨t13, e13, hf⟩ := q_ob hf
      refine x_iast (pc := 94) (w' := (mw G h z_thrown z_s z_kept z_isKept z_moveMany z_moves z_hands z_troubles z_troubleSorts z_troubleNumbers z_asked z_paint z_leasts z_isSeen z_classMany t13 z_typeCounts_12 z_typeMany z_text z_signs z_at z_lacks z_clauses z_begun z_letters z_firsts z_seconds z_aside z_sorts z_sizes z_items)) X E hI 11 rfl e13 rfl dX10_comes_94 (fun H locs hI => ?_)
      refine lv_aload_n (pc := 95) hx hb dX10_comes_95 rfl (lv_at hl 0 rfl) ?_
      refine x_get (pc := 96) X E hI inX10 0 rfl rfl 16 (by decide) tw_4_5 rfl dX10_comes_96 ?_
      refine lv_iload_n (pc := 99) hx hb dX10_comes_99 rfl (lv_at hl 2 rfl) ?_
      refine lv_iconst (pc := 100) (v := 0) hx hb dX10_comes_100 (by decide) ?_
      obtain ⟨t14, e14, hf⟩ := q_ob hf
      refine x_iast (pc := 101) (w' := (mw G h z_thrown z_s z_kept z_isKept z_moveMany z_moves z_hands z_troubles z_troubleSorts z_troubleNumbers z_asked z_paint z_leasts z_isSeen z_classMany t13 t14 z_typeMany z_text z_signs z_at z_lacks z_clauses z_begun z_letters z_firsts z_seconds z_aside z_sorts z_sizes z_items)) X E hI 12 rfl e14 rfl dX10_comes_101 (fun H locs hI => ?_)
      refine lv_aload_n (pc := 102) hx hb dX10_comes_102 rfl (lv_at hl 0 rfl) ?_
      refine lv_dup (pc := 103) hx hb dX10_comes_103 rfl ?_
      refine x_get (pc := 104) X E hI inX10 0 rfl rfl 17 (by decide) tw_4_6 rfl dX10_comes_104 ?_
      refine lv_iconst (pc := 107) (v := 1) hx hb dX10_comes_107 (by decide) ?_
      refine lv_iadd (pc := 108) hx hb dX10_comes_108 ?_
      refine x_put (pc := 109) (w' := (mw G h z_thrown z_s z_kept z_isKept z_moveMany z_moves z_hands z_troubles z_troubleSorts z_troubleNumbers z_asked z_paint z_leasts z_isSeen z_classMany t13 t14 (z_typeMany + 1) z_text z_signs z_at z_lacks z_clauses z_begun z_letters z_firsts z_seconds z_aside z_sorts z_sizes z_items)) X E hI inX10 tyX10 tyX10_ok nmX10 0 rfl rfl 17 (by decide) tw_4_6 rfl rfl rfl (Nat.le_of_ble_eq_true rfl) rfl dX10_comes_109 (fun H locs hI => ?_)
      refine lv_aload_n (pc := 112) hx hb dX10_comes_112 rfl (lv_at hl 0 rfl) ?_
      refine x_get (pc := 113) X E hI inX10 0 rfl rfl 16 (by decide) tw_4_5 rfl dX10_comes_113 ?_
      refine lv_iload_n (pc := 116) hx hb dX10_comes_116 rfl (lv_at hl 2 rfl) ?_
      refine lv_dup2_11 (pc := 117) hx hb dX10_comes_117 rfl rfl ?_
      obtain ⟨t15, e15, hf⟩ := q_ob hf
      refine x_iald (pc := 118) X E hI 12 rfl e15 dX10_comes_118 ?_
      refine lv_iconst (pc := 119) (v := 1) hx hb dX10_comes_119 (by decide) ?_
      refine lv_iadd (pc := 120) hx hb dX10_comes_120 ?_
      obtain ⟨t16, e16, hf⟩ := q_ob hf
      refine x_iast (pc := 121) (w' := (mw G h z_thrown z_s z_kept z_isKept z_moveMany z_moves z_hands z_troubles z_troubleSorts z_troubleNumbers z_asked z_paint z_leasts z_isSeen z_classMany t13 t16 (z_typeMany + 1) z_text z_signs z_at z_lacks z_clauses z_begun z_letters z_firsts z_seconds z_aside z_sorts z_sizes z_items)) X E hI 12 rfl e16 rfl dX10_comes_121 (fun H locs hI => ?_)
      obtain rfl := Option.some.inj hf
      exact x_vret X hI dX10_comes_122

abbrev rm_X10_indexes : Room := { frames := 6, cells := 0, slots := 0, locals := 132 }
set_option maxHeartbeats 4000000 in
set_option maxRecDepth 100000 in
theorem k_X10_indexes_L11 {p : Program} {l : Launch} {e : Env} {s : State} {m : MethodId} {args : Array Value} {below : List Frame} {meth : Method} {c : Code} {A : Nat → Prop} {G : GX} {h : Nat → Nat} {l1 : Int32} {z_thrown : Int32} {z_s : Nat → Int32} {z_kept : Nat → Int32} {z_isKept : Int32} {z_moveMany : Int32} {z_moves : Nat → Int32} {z_hands : Nat → Int32} {z_troubles : Int32} {z_troubleSorts : Nat → Int32} {z_troubleNumbers : Nat → Int32} {z_paint : Nat → Int32} {z_leasts : Nat → Int32} {z_isSeen : Nat → Int32} {z_classMany : Int32} {z_text : Nat → Int32} {z_signs : Int32} {z_at : Int32} {z_lacks : Int32} {z_clauses : Int32} {z_begun : Int32} {z_letters : Nat → Int32} {z_firsts : Nat → Int32} {z_seconds : Nat → Int32} {z_aside : Nat → Int32} {z_sorts : Nat → Int32} {z_sizes : Nat → Int32} {z_items : Nat → Int64} {K : Int32 → (Nat → Int32) → (Nat → Int32) → (Nat → Int32) → Int32 → Option (Int32 × (Nat → Int32) × (Nat → Int32) × (Nat → Int32) × (Nat → Int32) × (Nat → Int32) × Int32)} {res : Int32 × (Nat → Int32) × (Nat → Int32) × (Nat → Int32) × (Nat → Int32) × (Nat → Int32) × Int32} (X : CX RX10 cX10_indexes 3 none p s m args meth c) (E : EX G A s)
    (hK : ∀ (l2 : Int32) (z_asked : (Nat → Int32)) (z_types : (Nat → Int32)) (z_typeCounts : (Nat → Int32)) (z_typeMany : Int32) (H : Heap) (locs : List Loc) (ls : Array Slot), IN A G (mw G h z_thrown z_s z_kept z_isKept z_moveMany z_moves z_hands z_troubles z_troubleSorts z_troubleNumbers z_asked z_paint z_leasts z_isSeen z_classMany z_types z_typeCounts z_typeMany z_text z_signs z_at z_lacks z_clauses z_begun z_letters z_firsts z_seconds z_aside z_sorts z_sizes z_items) s H locs → lv_has ls 3 [(0, .ref (h 0)), (1, .int l1), (2, .int l2)] → K l2 z_asked z_types z_typeCounts z_typeMany = some res → W p l e rm_X10_indexes s m args below meth c H locs 0 0 (MQ below (QX G A (mw G h z_thrown z_s z_kept z_isKept res.1 res.2.1 res.2.2.1 z_troubles z_troubleSorts z_troubleNumbers res.2.2.2.1 z_paint z_leasts z_isSeen z_classMany res.2.2.2.2.1 res.2.2.2.2.2.1 res.2.2.2.2.2.2 z_text z_signs z_at z_lacks z_clauses z_begun z_letters z_firsts z_seconds z_aside z_sorts z_sizes z_items) none) args s 0 0 A) (F0 m 43 ls [])) :
    ∀ {k : Nat} {l2 : Int32} {z_asked : (Nat → Int32)} {z_types : (Nat → Int32)} {z_typeCounts : (Nat → Int32)} {z_typeMany : Int32} {H : Heap} {locs : List Loc} {ls : Array Slot}, IN A G (mw G h z_thrown z_s z_kept z_isKept z_moveMany z_moves z_hands z_troubles z_troubleSorts z_troubleNumbers z_asked z_paint z_leasts z_isSeen z_classMany z_types z_typeCounts z_typeMany z_text z_signs z_at z_lacks z_clauses z_begun z_letters z_firsts z_seconds z_aside z_sorts z_sizes z_items) s H locs → lv_has ls 3 [(0, .ref (h 0)), (1, .int l1), (2, .int l2)] → f_X10_indexes_L11 l1 z_s z_moveMany z_moves z_hands K k l2 z_asked z_types z_typeCounts z_typeMany = some res → W p l e rm_X10_indexes s m args below meth c H locs 0 0 (MQ below (QX G A (mw G h z_thrown z_s z_kept z_isKept res.1 res.2.1 res.2.2.1 z_troubles z_troubleSorts z_troubleNumbers res.2.2.2.1 z_paint z_leasts z_isSeen z_classMany res.2.2.2.2.1 res.2.2.2.2.2.1 res.2.2.2.2.2.2 z_text z_signs z_at z_lacks z_clauses z_begun z_letters z_firsts z_seconds z_aside z_sorts z_sizes z_items) none) args s 0 0 A) (F0 m 11 ls []) := by
  obtain ⟨hx, hb, hml, hown, hts, hr, hlk⟩ := id X
  intro k
  induction k with
  | zero => intro l2 z_asked z_types z_typeCounts z_typeMany H locs ls hI hl hf; exact nomatch (show none = some res from hf)
  | succ k ih =>
    intro l2 z_asked z_types z_typeCounts z_typeMany H locs ls hI hl hf
    rw [f_X10_indexes_L11] at hf
    refine lv_iload_n (pc := 11) hx hb dX10_indexes_11 rfl (lv_at hl 2 rfl) ?_
    refine lv_aload_n (pc := 12) hx hb dX10_indexes_12 rfl (lv_at hl 0 rfl) ?_
    refine x_get (pc := 13) X E hI inX10 0 rfl rfl 4 (by decide) tw_3_233 rfl dX10_indexes_13 ?_
    refine lv_icmp_ge (pc := 16) (tgt := 43) hx hb dX10_indexes_16 (by decide) (fun c1 => ?_) (fun c1 => ?_)
    · have hf := q_ip c1 hf
      exact hK _ _ _ _ _ _ _ _ hI (lv_sub hl [0, 1, 2] rfl) hf
    · have hf := q_in c1 hf
      refine lv_aload_n (pc := 19) hx hb dX10_indexes_19 rfl (lv_at hl 0 rfl) ?_
      refine lv_iload_n (pc := 20) hx hb dX10_indexes_20 rfl (lv_at hl 2 rfl) ?_
      refine lv_iload_n (pc := 21) hx hb dX10_indexes_21 rfl (lv_at hl 1 rfl) ?_
      obtain ⟨t2, e2, hf⟩ := q_ob hf
      refine x_cVs (pc := 22) (st1 := [.int t2]) (w1 := (mw G h z_thrown z_s z_kept z_isKept z_moveMany z_moves z_hands z_troubles z_troubleSorts z_troubleNumbers z_asked z_paint z_leasts z_isSeen z_classMany z_types z_typeCounts z_typeMany z_text z_signs z_at z_lacks z_clauses z_begun z_letters z_firsts z_seconds z_aside z_sorts z_sizes z_items)) X E hI (c_X10_counts l G h e2) kv_X10_132 hd_X10_counts ⟨rfl, rfl⟩ (by decide) 0 rfl rfl rfl rfl hl.1 rfl (Nat.le_of_ble_eq_true rfl) dX10_indexes_22 ⟨Nat.le_of_ble_eq_true rfl, Nat.le_of_ble_eq_true rfl⟩ rfl (fun H locs hI => ?_)
      refine lv_if_eq (pc := 25) (tgt := 37) hx hb dX10_indexes_25 (by decide) (fun c3 => ?_) (fun c3 => ?_)
      · have hf := q_ip c3 hf
        refine lv_iinc (pc := 37) (v := l2 + 1) (lv' := [(2, .int (l2 + 1)), (0, .ref (h 0)), (1, .int l1)]) hx hb dX10_indexes_37 hl (k := 2) rfl rfl (by decide) rfl (fun ls hl => ?_)
        refine lv_goto (pc := 40) (tgt := 11) hx hb dX10_indexes_40 (by decide) ?_
        exact ih hI (lv_sub hl [1, 2, 0] rfl) hf
      · have hf := q_in c3 hf
        refine lv_aload_n (pc := 28) hx hb dX10_indexes_28 rfl (lv_at hl 0 rfl) ?_
        refine lv_aload_n (pc := 29) hx hb dX10_indexes_29 rfl (lv_at hl 0 rfl) ?_
        refine lv_iload_n (pc := 30) hx hb dX10_indexes_30 rfl (lv_at hl 2 rfl) ?_
        obtain ⟨t4, e4, hf⟩ := q_ob hf
        refine x_cVs (pc := 31) (st1 := [.int t4.1, .ref (h 0)]) (w1 := (mw G h z_thrown z_s z_kept z_isKept z_moveMany z_moves z_hands z_troubles z_troubleSorts z_troubleNumbers t4.2 z_paint z_leasts z_isSeen z_classMany z_types z_typeCounts z_typeMany z_text z_signs z_at z_lacks z_clauses z_begun z_letters z_firsts z_seconds z_aside z_sorts z_sizes z_items)) X E hI (c_X10_typeOf l G h e4) kv_X10_165 hd_X10_typeOf ⟨rfl, rfl⟩ (by decide) 0 rfl rfl rfl rfl hl.1 rfl (Nat.le_of_ble_eq_true rfl) dX10_indexes_31 ⟨Nat.le_of_ble_eq_true rfl, Nat.le_of_ble_eq_true rfl⟩ rfl (fun H locs hI => ?_)
        obtain ⟨t5, e5, hf⟩ := q_ob hf
        refine x_cVs (pc := 34) (st1 := []) (w1 := (mw G h z_thrown z_s z_kept z_isKept z_moveMany z_moves z_hands z_troubles z_troubleSorts z_troubleNumbers t4.2 z_paint z_leasts z_isSeen z_classMany t5.1 t5.2.1 t5.2.2 z_text z_signs z_at z_lacks z_clauses z_begun z_letters z_firsts z_seconds z_aside z_sorts z_sizes z_items)) X E hI (c_X10_comes l G h e5) kv_X10_219 hd_X10_comes ⟨rfl, rfl⟩ (by decide) 0 rfl rfl rfl rfl hl.1 rfl (Nat.le_of_ble_eq_true rfl) dX10_indexes_34 ⟨Nat.le_of_ble_eq_true rfl, Nat.le_of_ble_eq_true rfl⟩ rfl (fun H locs hI => ?_)
        refine lv_iinc (pc := 37) (v := l2 + 1) (lv' := [(2, .int (l2 + 1)), (0, .ref (h 0)), (1, .int l1)]) hx hb dX10_indexes_37 hl (k := 2) rfl rfl (by decide) rfl (fun ls hl => ?_)
        refine lv_goto (pc := 40) (tgt := 11) hx hb dX10_indexes_40 (by decide) ?_
        exact ih hI (lv_sub hl [1, 2, 0] rfl) hf

set_option maxHeartbeats 4000000 in
set_option maxRecDepth 100000 in
theorem c_X10_indexes (l : Launch) (G : GX) (h : Nat → Nat) {l1 : Int32} {z_s : Nat → Int32} {z_moveMany : Int32} {z_moves : Nat → Int32} {z_hands : Nat → Int32} {z_asked : Nat → Int32} {z_types : Nat → Int32} {z_typeCounts : Nat → Int32} {z_typeMany : Int32} {z_thrown : Int32} {z_kept : Nat → Int32} {z_isKept : Int32} {z_troubles : Int32} {z_troubleSorts : Nat → Int32} {z_troubleNumbers : Nat → Int32} {z_paint : Nat → Int32} {z_leasts : Nat → Int32} {z_isSeen : Nat → Int32} {z_classMany : Int32} {z_text : Nat → Int32} {z_signs : Int32} {z_at : Int32} {z_lacks : Int32} {z_clauses : Int32} {z_begun : Int32} {z_letters : Nat → Int32} {z_firsts : Nat → Int32} {z_seconds : Nat → Int32} {z_aside : Nat → Int32} {z_sorts : Nat → Int32} {z_sizes : Nat → Int32} {z_items : Nat → Int64} {res : Int32 × (Nat → Int32) × (Nat → Int32) × (Nat → Int32) × (Nat → Int32) × (Nat → Int32) × Int32} (hf : f_X10_indexes l1 z_s z_moveMany z_moves z_hands z_asked z_types z_typeCounts z_typeMany = some res) : MX l yX10_indexes cX10_indexes 3 none rm_X10_indexes G (mw G h z_thrown z_s z_kept z_isKept z_moveMany z_moves z_hands z_troubles z_troubleSorts z_troubleNumbers z_asked z_paint z_leasts z_isSeen z_classMany z_types z_typeCounts z_typeMany z_text z_signs z_at z_lacks z_clauses z_begun z_letters z_firsts z_seconds z_aside z_sorts z_sizes z_items) [.ref (h 0), .int l1] (mw G h z_thrown z_s z_kept z_isKept res.1 res.2.1 res.2.2.1 z_troubles z_troubleSorts z_troubleNumbers res.2.2.2.1 z_paint z_leasts z_isSeen z_classMany res.2.2.2.2.1 res.2.2.2.2.2.1 res.2.2.2.2.2.2 z_text z_signs z_at z_lacks z_clauses z_begun z_letters z_firsts z_seconds z_aside z_sorts z_sizes z_items) none 0 0 := by
  refine MX.of (plainFor_of_name (by decide)) (Nat.le_of_ble_eq_true rfl) ?_
  intro p e s m below meth c A X E hI ls hl
  obtain ⟨hx, hb, hml, hown, hts, hr, hlk⟩ := id X
  have hl : lv_has ls 3 [(0, .ref (h 0)), (1, .int l1)] := hl
  unfold f_X10_indexes at hf
  refine lv_aload_n (pc := 0) hx hb dX10_indexes_0 rfl (lv_at hl 0 rfl) ?_
  obtain ⟨t1, e1, hf⟩ := q_ob hf
  refine x_cVs (pc := 1) (st1 := []) (w1 := (mw G h z_thrown z_s z_kept z_isKept t1.1 t1.2.1 t1.2.2 z_troubles z_troubleSorts z_troubleNumbers z_asked z_paint z_leasts z_isSeen z_classMany z_types z_typeCounts z_typeMany z_text z_signs z_at z_lacks z_clauses z_begun z_letters z_firsts z_seconds z_aside z_sorts z_sizes z_items)) X E hI (c_X10_moves_ l G h e1) kv_X10_163 hd_X10_moves_ ⟨rfl, rfl⟩ (by decide) 0 rfl rfl rfl rfl hl.1 rfl (Nat.le_of_ble_eq_true rfl) dX10_indexes_1 ⟨Nat.le_of_ble_eq_true rfl, Nat.le_of_ble_eq_true rfl⟩ rfl (fun H locs hI => ?_)
  refine lv_aload_n (pc := 4) hx hb dX10_indexes_4 rfl (lv_at hl 0 rfl) ?_
  refine lv_iconst (pc := 5) (v := 0) hx hb dX10_indexes_5 (by decide) ?_
  refine x_put (pc := 6) (w' := (mw G h z_thrown z_s z_kept z_isKept t1.1 t1.2.1 t1.2.2 z_troubles z_troubleSorts z_troubleNumbers z_asked z_paint z_leasts z_isSeen z_classMany z_types z_typeCounts 0 z_text z_signs z_at z_lacks z_clauses z_begun z_letters z_firsts z_seconds z_aside z_sorts z_sizes z_items)) X E hI inX10 tyX10 tyX10_ok nmX10 0 rfl rfl 17 (by decide) tw_4_6 rfl rfl rfl (Nat.le_of_ble_eq_true rfl) rfl dX10_indexes_6 (fun H locs hI => ?_)
  refine lv_iconst (pc := 9) (v := 0) hx hb dX10_indexes_9 (by decide) ?_
  refine lv_istore_n (pc := 10) (lv' := [(2, .int 0), (0, .ref (h 0)), (1, .int l1)]) hx hb dX10_indexes_10 rfl hl (by decide) rfl (fun ls hl => ?_)
  refine k_X10_indexes_L11 X E (fun l2_2 z_asked_2 z_types_2 z_typeCounts_2 z_typeMany_2 H locs ls hI hl hf => ?_) hI (lv_sub hl [1, 2, 0] rfl) hf
  obtain rfl := Option.some.inj hf
  exact x_vret X hI dX10_indexes_43

abbrev rm_X10_isBy : Room := { frames := 1, cells := 0, slots := 0, locals := 25 }
set_option maxHeartbeats 4000000 in
set_option maxRecDepth 100000 in
theorem c_X10_isBy (l : Launch) (G : GX)  {l0 : Int32} {res : Int32} (hf : f_X10_isBy l0 = some res) : MX l yX10_isBy cX10_isBy 1 (some .boolean) rm_X10_isBy G [] [.int l0] [] (some (.int res)) 0 0 := by
  refine MX.of (plainFor_of_name (by decide)) (Nat.le_of_ble_eq_true rfl) ?_
  intro p e s m below meth c A X E hI ls hl
  obtain ⟨hx, hb, hml, hown, hts, hr, hlk⟩ := id X
  have hl : lv_has ls 1 [(0, .int l0)] := hl
  unfold f_X10_isBy at hf
  refine lv_iload_n (pc := 0) hx hb dX10_isBy_0 rfl (lv_at hl 0 rfl) ?_
  refine lv_i2l (pc := 1) (v := (l0 : Int32).toInt64) hx hb dX10_isBy_1 rfl ?_
  refine lv_lconst (pc := 2) (v := 0) hx hb dX10_isBy_2 (by decide) ?_
  refine lv_lconst (pc := 3) (v := 1) hx hb dX10_isBy_3 (by decide) ?_
  obtain ⟨t1, e1, hf⟩ := q_ob hf
  refine x_cSn (pc := 4) (st1 := [.int t1]) X E hI (c_X10_in l G e1) ks_X10_85 hd_X10_in ⟨rfl, rfl⟩ (by decide) rfl hl.1 rfl (Nat.le_of_ble_eq_true rfl) dX10_isBy_4 ⟨Nat.le_of_ble_eq_true rfl, Nat.le_of_ble_eq_true rfl⟩ rfl (fun H locs hI => ?_)
  obtain ⟨t2, e2, hf⟩ := q_ob hf
  obtain ⟨hz, rfl⟩ := q_rz_i e2
  obtain rfl := Option.some.inj hf
  exact x_zret X hI hz dX10_isBy_7

