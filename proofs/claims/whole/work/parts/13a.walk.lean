abbrev rm_X10_in : Room := { frames := 0, cells := 0, slots := 0, locals := 0 }
set_option maxHeartbeats 4000000 in
set_option maxRecDepth 100000 in
theorem c_X10_in (l : Launch) (G : GX)  {l0 : Int64} {l2 : Int64} {l4 : Int64} {res : Int32} (hf : f_X10_in l0 l2 l4 = some res) : MX l yX10_in cX10_in 6 (some .boolean) rm_X10_in G [] [.long l0, .long l2, .long l4] [] (some (.int res)) 0 0 := by
  refine MX.of (plainFor_of_name (by decide)) (Nat.le_of_ble_eq_true rfl) ?_
  intro p e s m below meth c A X E hI ls hl
  obtain ⟨hx, hb, hml, hown, hts, hr, hlk⟩ := id X
  have hl : lv_has ls 6 [(0, .long l0), (2, .long l2), (4, .long l4)] := hl
  unfold f_X10_in at hf
  refine lv_lload_n (pc := 0) hx hb dX10_in_0 rfl (lv_at hl 0 rfl) ?_
  refine lv_lload_n (pc := 1) hx hb dX10_in_1 rfl (lv_at hl 1 rfl) ?_
  refine W.lcmp (pc := 2) hx hb dX10_in_2 ?_
  refine lv_if_lt (pc := 3) (tgt := 17) hx hb dX10_in_3 (by decide) (fun c1 => ?_) (fun c1 => ?_)
  · have hf := q_ip c1 hf
    refine lv_iconst (pc := 17) (v := 0) hx hb dX10_in_17 (by decide) ?_
    obtain rfl := Option.some.inj hf
    exact x_zret X hI (Or.inl rfl) dX10_in_18
  · have hf := q_in c1 hf
    refine lv_lload_n (pc := 6) hx hb dX10_in_6 rfl (lv_at hl 0 rfl) ?_
    refine lv_lload (pc := 7) hx hb dX10_in_7 (lv_at hl 2 rfl) ?_
    refine W.lcmp (pc := 9) hx hb dX10_in_9 ?_
    refine lv_if_gt (pc := 10) (tgt := 17) hx hb dX10_in_10 (by decide) (fun c2 => ?_) (fun c2 => ?_)
    · have hf := q_ip c2 hf
      refine lv_iconst (pc := 17) (v := 0) hx hb dX10_in_17 (by decide) ?_
      obtain rfl := Option.some.inj hf
      exact x_zret X hI (Or.inl rfl) dX10_in_18
    · have hf := q_in c2 hf
      refine lv_iconst (pc := 13) (v := 1) hx hb dX10_in_13 (by decide) ?_
      refine lv_goto (pc := 14) (tgt := 18) hx hb dX10_in_14 (by decide) ?_
      obtain rfl := Option.some.inj hf
      exact x_zret X hI (Or.inr rfl) dX10_in_18

abbrev rm_X10_has : Room := { frames := 0, cells := 0, slots := 0, locals := 0 }
set_option maxHeartbeats 4000000 in
set_option maxRecDepth 100000 in
theorem c_X10_has (l : Launch) (G : GX)  {l0 : Int32} {l1 : Int32} {res : Int32} (hf : f_X10_has l0 l1 = some res) : MX l yX10_has cX10_has 2 (some .boolean) rm_X10_has G [] [.int l0, .int l1] [] (some (.int res)) 0 0 := by
  refine MX.of (plainFor_of_name (by decide)) (Nat.le_of_ble_eq_true rfl) ?_
  intro p e s m below meth c A X E hI ls hl
  obtain ⟨hx, hb, hml, hown, hts, hr, hlk⟩ := id X
  have hl : lv_has ls 2 [(0, .int l0), (1, .int l1)] := hl
  unfold f_X10_has at hf
  refine lv_iload_n (pc := 0) hx hb dX10_has_0 rfl (lv_at hl 0 rfl) ?_
  refine lv_iload_n (pc := 1) hx hb dX10_has_1 rfl (lv_at hl 1 rfl) ?_
  refine lv_ishr (pc := 2) hx hb dX10_has_2 ?_
  refine lv_iconst (pc := 3) (v := 1) hx hb dX10_has_3 (by decide) ?_
  refine lv_iand (pc := 4) hx hb dX10_has_4 ?_
  refine lv_iconst (pc := 5) (v := 1) hx hb dX10_has_5 (by decide) ?_
  refine lv_icmp_ne (pc := 6) (tgt := 13) hx hb dX10_has_6 (by decide) (fun c1 => ?_) (fun c1 => ?_)
  · have hf := q_in c1 hf
    refine lv_iconst (pc := 13) (v := 0) hx hb dX10_has_13 (by decide) ?_
    obtain rfl := Option.some.inj hf
    exact x_zret X hI (Or.inl rfl) dX10_has_14
  · have hf := q_ip c1 hf
    refine lv_iconst (pc := 9) (v := 1) hx hb dX10_has_9 (by decide) ?_
    refine lv_goto (pc := 10) (tgt := 14) hx hb dX10_has_10 (by decide) ?_
    obtain rfl := Option.some.inj hf
    exact x_zret X hI (Or.inr rfl) dX10_has_14

abbrev rm_X10_emptiesRacks : Room := { frames := 0, cells := 0, slots := 0, locals := 0 }
set_option maxHeartbeats 4000000 in
set_option maxRecDepth 100000 in
theorem k_X10_emptiesRacks_L2 {p : Program} {l : Launch} {e : Env} {s : State} {m : MethodId} {args : Array Value} {below : List Frame} {meth : Method} {c : Code} {A : Nat → Prop} {G : GX} {h : Nat → Nat} {z_thrown : Int32} {z_kept : Nat → Int32} {z_isKept : Int32} {z_moveMany : Int32} {z_moves : Nat → Int32} {z_hands : Nat → Int32} {z_troubles : Int32} {z_troubleSorts : Nat → Int32} {z_troubleNumbers : Nat → Int32} {z_asked : Nat → Int32} {z_paint : Nat → Int32} {z_leasts : Nat → Int32} {z_isSeen : Nat → Int32} {z_classMany : Int32} {z_types : Nat → Int32} {z_typeCounts : Nat → Int32} {z_typeMany : Int32} {z_text : Nat → Int32} {z_signs : Int32} {z_at : Int32} {z_lacks : Int32} {z_clauses : Int32} {z_begun : Int32} {z_letters : Nat → Int32} {z_firsts : Nat → Int32} {z_seconds : Nat → Int32} {z_aside : Nat → Int32} {z_sorts : Nat → Int32} {z_sizes : Nat → Int32} {z_items : Nat → Int64} {K : Int32 → (Nat → Int32) → Option ((Nat → Int32))} {res : (Nat → Int32)} (X : CX RX10 cX10_emptiesRacks 2 none p s m args meth c) (E : EX G A s)
    (hK : ∀ (l1 : Int32) (z_s : (Nat → Int32)) (H : Heap) (locs : List Loc) (ls : Array Slot), IN A G (mw G h z_thrown z_s z_kept z_isKept z_moveMany z_moves z_hands z_troubles z_troubleSorts z_troubleNumbers z_asked z_paint z_leasts z_isSeen z_classMany z_types z_typeCounts z_typeMany z_text z_signs z_at z_lacks z_clauses z_begun z_letters z_firsts z_seconds z_aside z_sorts z_sizes z_items) s H locs → lv_has ls 2 [(0, .ref (h 0)), (1, .int l1)] → K l1 z_s = some res → W p l e rm_X10_emptiesRacks s m args below meth c H locs 0 0 (MQ below (QX G A (mw G h z_thrown res z_kept z_isKept z_moveMany z_moves z_hands z_troubles z_troubleSorts z_troubleNumbers z_asked z_paint z_leasts z_isSeen z_classMany z_types z_typeCounts z_typeMany z_text z_signs z_at z_lacks z_clauses z_begun z_letters z_firsts z_seconds z_aside z_sorts z_sizes z_items) none) args s 0 0 A) (F0 m 25 ls [])) :
    ∀ {k : Nat} {l1 : Int32} {z_s : (Nat → Int32)} {H : Heap} {locs : List Loc} {ls : Array Slot}, IN A G (mw G h z_thrown z_s z_kept z_isKept z_moveMany z_moves z_hands z_troubles z_troubleSorts z_troubleNumbers z_asked z_paint z_leasts z_isSeen z_classMany z_types z_typeCounts z_typeMany z_text z_signs z_at z_lacks z_clauses z_begun z_letters z_firsts z_seconds z_aside z_sorts z_sizes z_items) s H locs → lv_has ls 2 [(0, .ref (h 0)), (1, .int l1)] → f_X10_emptiesRacks_L2 K k l1 z_s = some res → W p l e rm_X10_emptiesRacks s m args below meth c H locs 0 0 (MQ below (QX G A (mw G h z_thrown res z_kept z_isKept z_moveMany z_moves z_hands z_troubles z_troubleSorts z_troubleNumbers z_asked z_paint z_leasts z_isSeen z_classMany z_types z_typeCounts z_typeMany z_text z_signs z_at z_lacks z_clauses z_begun z_letters z_firsts z_seconds z_aside z_sorts z_sizes z_items) none) args s 0 0 A) (F0 m 2 ls []) := by
  obtain ⟨hx, hb, hml, hown, hts, hr, hlk⟩ := id X
  intro k
  induction k with
  | zero => intro l1 z_s H locs ls hI hl hf; exact nomatch (show none = some res from hf)
  | succ k ih =>
    intro l1 z_s H locs ls hI hl hf
    rw [f_X10_emptiesRacks_L2] at hf
    refine lv_iload_n (pc := 2) hx hb dX10_emptiesRacks_2 rfl (lv_at hl 1 rfl) ?_
    refine lv_bipush (pc := 3) (v := 9) hx hb dX10_emptiesRacks_3 (by decide) ?_
    refine lv_icmp_ge (pc := 5) (tgt := 25) hx hb dX10_emptiesRacks_5 (by decide) (fun c1 => ?_) (fun c1 => ?_)
    · have hf := q_ip c1 hf
      exact hK _ _ _ _ _ hI (lv_sub hl [0, 1] rfl) hf
    · have hf := q_in c1 hf
      refine lv_aload_n (pc := 8) hx hb dX10_emptiesRacks_8 rfl (lv_at hl 0 rfl) ?_
      refine x_get (pc := 9) X E hI inX10 0 rfl rfl 1 (by decide) tw_3_230 rfl dX10_emptiesRacks_9 ?_
      refine lv_bipush (pc := 12) (v := 37) hx hb dX10_emptiesRacks_12 (by decide) ?_
      refine lv_iload_n (pc := 14) hx hb dX10_emptiesRacks_14 rfl (lv_at hl 1 rfl) ?_
      refine lv_iadd (pc := 15) hx hb dX10_emptiesRacks_15 ?_
      refine lv_bipush (pc := 16) (v := (-5)) hx hb dX10_emptiesRacks_16 (by decide) ?_
      obtain ⟨t2, e2, hf⟩ := q_ob hf
      refine x_iast (pc := 18) (w' := (mw G h z_thrown t2 z_kept z_isKept z_moveMany z_moves z_hands z_troubles z_troubleSorts z_troubleNumbers z_asked z_paint z_leasts z_isSeen z_classMany z_types z_typeCounts z_typeMany z_text z_signs z_at z_lacks z_clauses z_begun z_letters z_firsts z_seconds z_aside z_sorts z_sizes z_items)) X E hI 1 rfl e2 rfl dX10_emptiesRacks_18 (fun H locs hI => ?_)
      refine lv_iinc (pc := 19) (v := l1 + 1) (lv' := [(1, .int (l1 + 1)), (0, .ref (h 0))]) hx hb dX10_emptiesRacks_19 hl (k := 1) rfl rfl (by decide) rfl (fun ls hl => ?_)
      refine lv_goto (pc := 22) (tgt := 2) hx hb dX10_emptiesRacks_22 (by decide) ?_
      exact ih hI (lv_sub hl [1, 0] rfl) hf

set_option maxHeartbeats 4000000 in
set_option maxRecDepth 100000 in
theorem c_X10_emptiesRacks (l : Launch) (G : GX) (h : Nat → Nat) {z_s : Nat → Int32} {z_thrown : Int32} {z_kept : Nat → Int32} {z_isKept : Int32} {z_moveMany : Int32} {z_moves : Nat → Int32} {z_hands : Nat → Int32} {z_troubles : Int32} {z_troubleSorts : Nat → Int32} {z_troubleNumbers : Nat → Int32} {z_asked : Nat → Int32} {z_paint : Nat → Int32} {z_leasts : Nat → Int32} {z_isSeen : Nat → Int32} {z_classMany : Int32} {z_types : Nat → Int32} {z_typeCounts : Nat → Int32} {z_typeMany : Int32} {z_text : Nat → Int32} {z_signs : Int32} {z_at : Int32} {z_lacks : Int32} {z_clauses : Int32} {z_begun : Int32} {z_letters : Nat → Int32} {z_firsts : Nat → Int32} {z_seconds : Nat → Int32} {z_aside : Nat → Int32} {z_sorts : Nat → Int32} {z_sizes : Nat → Int32} {z_items : Nat → Int64} {res : (Nat → Int32)} (hf : f_X10_emptiesRacks z_s = some res) : MX l yX10_emptiesRacks cX10_emptiesRacks 2 none rm_X10_emptiesRacks G (mw G h z_thrown z_s z_kept z_isKept z_moveMany z_moves z_hands z_troubles z_troubleSorts z_troubleNumbers z_asked z_paint z_leasts z_isSeen z_classMany z_types z_typeCounts z_typeMany z_text z_signs z_at z_lacks z_clauses z_begun z_letters z_firsts z_seconds z_aside z_sorts z_sizes z_items) [.ref (h 0)] (mw G h z_thrown res z_kept z_isKept z_moveMany z_moves z_hands z_troubles z_troubleSorts z_troubleNumbers z_asked z_paint z_leasts z_isSeen z_classMany z_types z_typeCounts z_typeMany z_text z_signs z_at z_lacks z_clauses z_begun z_letters z_firsts z_seconds z_aside z_sorts z_sizes z_items) none 0 0 := by
  refine MX.of (plainFor_of_name (by decide)) (Nat.le_of_ble_eq_true rfl) ?_
  intro p e s m below meth c A X E hI ls hl
  obtain ⟨hx, hb, hml, hown, hts, hr, hlk⟩ := id X
  have hl : lv_has ls 2 [(0, .ref (h 0))] := hl
  unfold f_X10_emptiesRacks at hf
  refine lv_iconst (pc := 0) (v := 0) hx hb dX10_emptiesRacks_0 (by decide) ?_
  refine lv_istore_n (pc := 1) (lv' := [(1, .int 0), (0, .ref (h 0))]) hx hb dX10_emptiesRacks_1 rfl hl (by decide) rfl (fun ls hl => ?_)
  refine k_X10_emptiesRacks_L2 X E (fun l1_1 z_s_1 H locs ls hI hl hf => ?_) hI (lv_sub hl [1, 0] rfl) hf
  obtain rfl := Option.some.inj hf
  exact x_vret X hI dX10_emptiesRacks_25

abbrev rm_X10_copies : Room := { frames := 0, cells := 0, slots := 0, locals := 0 }
set_option maxHeartbeats 4000000 in
set_option maxRecDepth 100000 in
theorem k_X10_copies_L2 {p : Program} {l : Launch} {e : Env} {s : State} {m : MethodId} {args : Array Value} {below : List Frame} {meth : Method} {c : Code} {A : Nat → Prop} {G : GX} {h0 : Nat} {h1 : Nat} {z_a : Nat → Int32} {K : Int32 → (Nat → Int32) → Option ((Nat → Int32))} {res : (Nat → Int32)} (X : CX RX10 cX10_copies 3 none p s m args meth c) (E : EX G A s)
    (hK : ∀ (l2 : Int32) (z_b : (Nat → Int32)) (H : Heap) (locs : List Loc) (ls : Array Slot), IN A G (cpw G h0 h1 z_a z_b) s H locs → lv_has ls 3 [(0, .ref h0), (1, .ref h1), (2, .int l2)] → K l2 z_b = some res → W p l e rm_X10_copies s m args below meth c H locs 0 0 (MQ below (QX G A (cpw G h0 h1 z_a res) none) args s 0 0 A) (F0 m 20 ls [])) :
    ∀ {k : Nat} {l2 : Int32} {z_b : (Nat → Int32)} {H : Heap} {locs : List Loc} {ls : Array Slot}, IN A G (cpw G h0 h1 z_a z_b) s H locs → lv_has ls 3 [(0, .ref h0), (1, .ref h1), (2, .int l2)] → f_X10_copies_L2 z_a K k l2 z_b = some res → W p l e rm_X10_copies s m args below meth c H locs 0 0 (MQ below (QX G A (cpw G h0 h1 z_a res) none) args s 0 0 A) (F0 m 2 ls []) := by
  obtain ⟨hx, hb, hml, hown, hts, hr, hlk⟩ := id X
  intro k
  induction k with
  | zero => intro l2 z_b H locs ls hI hl hf; exact nomatch (show none = some res from hf)
  | succ k ih =>
    intro l2 z_b H locs ls hI hl hf
    rw [f_X10_copies_L2] at hf
    refine lv_iload_n (pc := 2) hx hb dX10_copies_2 rfl (lv_at hl 2 rfl) ?_
    refine lv_bipush (pc := 3) (v := 82) hx hb dX10_copies_3 (by decide) ?_
    refine lv_icmp_ge (pc := 5) (tgt := 20) hx hb dX10_copies_5 (by decide) (fun c1 => ?_) (fun c1 => ?_)
    · have hf := q_ip c1 hf
      exact hK _ _ _ _ _ hI (lv_sub hl [0, 1, 2] rfl) hf
    · have hf := q_in c1 hf
      refine lv_aload_n (pc := 8) hx hb dX10_copies_8 rfl (lv_at hl 1 rfl) ?_
      refine lv_iload_n (pc := 9) hx hb dX10_copies_9 rfl (lv_at hl 2 rfl) ?_
      refine lv_aload_n (pc := 10) hx hb dX10_copies_10 rfl (lv_at hl 0 rfl) ?_
      refine lv_iload_n (pc := 11) hx hb dX10_copies_11 rfl (lv_at hl 2 rfl) ?_
      obtain ⟨t2, e2, hf⟩ := q_ob hf
      refine x_iald (pc := 12) X E hI 0 rfl e2 dX10_copies_12 ?_
      obtain ⟨t3, e3, hf⟩ := q_ob hf
      refine x_iast (pc := 13) (w' := (cpw G h0 h1 z_a t3)) X E hI 1 rfl e3 rfl dX10_copies_13 (fun H locs hI => ?_)
      refine lv_iinc (pc := 14) (v := l2 + 1) (lv' := [(2, .int (l2 + 1)), (0, .ref h0), (1, .ref h1)]) hx hb dX10_copies_14 hl (k := 2) rfl rfl (by decide) rfl (fun ls hl => ?_)
      refine lv_goto (pc := 17) (tgt := 2) hx hb dX10_copies_17 (by decide) ?_
      exact ih hI (lv_sub hl [1, 2, 0] rfl) hf

set_option maxHeartbeats 4000000 in
set_option maxRecDepth 100000 in
theorem c_X10_copies (l : Launch) (G : GX) (h0 : Nat) (h1 : Nat) {z_a : Nat → Int32} {z_b : Nat → Int32} {res : (Nat → Int32)} (hf : f_X10_copies z_a z_b = some res) : MX l yX10_copies cX10_copies 3 none rm_X10_copies G (cpw G h0 h1 z_a z_b) [.ref (h0), .ref (h1)] (cpw G h0 h1 z_a res) none 0 0 := by
  refine MX.of (plainFor_of_name (by decide)) (Nat.le_of_ble_eq_true rfl) ?_
  intro p e s m below meth c A X E hI ls hl
  obtain ⟨hx, hb, hml, hown, hts, hr, hlk⟩ := id X
  have hl : lv_has ls 3 [(0, .ref h0), (1, .ref h1)] := hl
  unfold f_X10_copies at hf
  refine lv_iconst (pc := 0) (v := 0) hx hb dX10_copies_0 (by decide) ?_
  refine lv_istore_n (pc := 1) (lv' := [(2, .int 0), (0, .ref h0), (1, .ref h1)]) hx hb dX10_copies_1 rfl hl (by decide) rfl (fun ls hl => ?_)
  refine k_X10_copies_L2 X E (fun l2_1 z_b_1 H locs ls hI hl hf => ?_) hI (lv_sub hl [1, 2, 0] rfl) hf
  obtain rfl := Option.some.inj hf
  exact x_vret X hI dX10_copies_20

abbrev rm_X10_places : Room := { frames := 1, cells := 0, slots := 0, locals := 25 }
set_option maxHeartbeats 4000000 in
set_option maxRecDepth 100000 in
theorem c_X10_places (l : Launch) (G : GX) (h : Nat → Nat) {l1 : Int32} {z_s : Nat → Int32} {z_thrown : Int32} {z_kept : Nat → Int32} {z_isKept : Int32} {z_moveMany : Int32} {z_moves : Nat → Int32} {z_hands : Nat → Int32} {z_troubles : Int32} {z_troubleSorts : Nat → Int32} {z_troubleNumbers : Nat → Int32} {z_asked : Nat → Int32} {z_paint : Nat → Int32} {z_leasts : Nat → Int32} {z_isSeen : Nat → Int32} {z_classMany : Int32} {z_types : Nat → Int32} {z_typeCounts : Nat → Int32} {z_typeMany : Int32} {z_text : Nat → Int32} {z_signs : Int32} {z_at : Int32} {z_lacks : Int32} {z_clauses : Int32} {z_begun : Int32} {z_letters : Nat → Int32} {z_firsts : Nat → Int32} {z_seconds : Nat → Int32} {z_aside : Nat → Int32} {z_sorts : Nat → Int32} {z_sizes : Nat → Int32} {z_items : Nat → Int64} {res : Int32 × (Nat → Int32)} (hf : f_X10_places l1 z_s = some res) : MX l yX10_places cX10_places 3 (some .int) rm_X10_places G (mw G h z_thrown z_s z_kept z_isKept z_moveMany z_moves z_hands z_troubles z_troubleSorts z_troubleNumbers z_asked z_paint z_leasts z_isSeen z_classMany z_types z_typeCounts z_typeMany z_text z_signs z_at z_lacks z_clauses z_begun z_letters z_firsts z_seconds z_aside z_sorts z_sizes z_items) [.ref (h 0), .int l1] (mw G h z_thrown res.2 z_kept z_isKept z_moveMany z_moves z_hands z_troubles z_troubleSorts z_troubleNumbers z_asked z_paint z_leasts z_isSeen z_classMany z_types z_typeCounts z_typeMany z_text z_signs z_at z_lacks z_clauses z_begun z_letters z_firsts z_seconds z_aside z_sorts z_sizes z_items) (some (.int res.1)) 0 0 := by
  refine MX.of (plainFor_of_name (by decide)) (Nat.le_of_ble_eq_true rfl) ?_
  intro p e s m below meth c A X E hI ls hl
  obtain ⟨hx, hb, hml, hown, hts, hr, hlk⟩ := id X
  have hl : lv_has ls 3 [(0, .ref (h 0)), (1, .int l1)] := hl
  unfold f_X10_places at hf
  refine lv_iload_n (pc := 0) hx hb dX10_places_0 rfl (lv_at hl 1 rfl) ?_
  refine lv_i2l (pc := 1) (v := (l1 : Int32).toInt64) hx hb dX10_places_1 rfl ?_
  refine lv_ldc2 (pc := 2) (v := 2) hx hb hown (hts _ tw_4_88) dX10_places_2 ?_
  refine lv_ldc2 (pc := 5) (v := 6) hx hb hown (hts _ tw_4_89) dX10_places_5 ?_
  obtain ⟨t1, e1, hf⟩ := q_ob hf
  refine x_cSn (pc := 8) (st1 := [.int t1]) X E hI (c_X10_in l G e1) ks_X10_85 hd_X10_in ⟨rfl, rfl⟩ (by decide) rfl hl.1 rfl (Nat.le_of_ble_eq_true rfl) dX10_places_8 ⟨Nat.le_of_ble_eq_true rfl, Nat.le_of_ble_eq_true rfl⟩ rfl (fun H locs hI => ?_)
  refine lv_if_ne (pc := 11) (tgt := 17) hx hb dX10_places_11 (by decide) (fun c2 => ?_) (fun c2 => ?_)
  · have hf := q_in c2 hf
    refine lv_aload_n (pc := 17) hx hb dX10_places_17 rfl (lv_at hl 0 rfl) ?_
    refine x_get (pc := 18) X E hI inX10 0 rfl rfl 1 (by decide) tw_3_230 rfl dX10_places_18 ?_
    refine lv_iconst (pc := 21) (v := 0) hx hb dX10_places_21 (by decide) ?_
    obtain ⟨t3, e3, hf⟩ := q_ob hf
    refine x_iald (pc := 22) X E hI 1 rfl e3 dX10_places_22 ?_
    refine lv_istore_n (pc := 23) (lv' := [(2, .int t3), (0, .ref (h 0)), (1, .int l1)]) hx hb dX10_places_23 rfl hl (by decide) rfl (fun ls hl => ?_)
    refine lv_aload_n (pc := 24) hx hb dX10_places_24 rfl (lv_at hl 1 rfl) ?_
    refine x_get (pc := 25) X E hI inX10 0 rfl rfl 1 (by decide) tw_3_230 rfl dX10_places_25 ?_
    refine lv_iconst (pc := 28) (v := 0) hx hb dX10_places_28 (by decide) ?_
    refine lv_iload_n (pc := 29) hx hb dX10_places_29 rfl (lv_at hl 2 rfl) ?_
    obtain ⟨t4, e4, hf⟩ := q_ob hf
    refine x_iast (pc := 30) (w' := (mw G h z_thrown t4 z_kept z_isKept z_moveMany z_moves z_hands z_troubles z_troubleSorts z_troubleNumbers z_asked z_paint z_leasts z_isSeen z_classMany z_types z_typeCounts z_typeMany z_text z_signs z_at z_lacks z_clauses z_begun z_letters z_firsts z_seconds z_aside z_sorts z_sizes z_items)) X E hI 1 rfl e4 rfl dX10_places_30 (fun H locs hI => ?_)
    refine lv_aload_n (pc := 31) hx hb dX10_places_31 rfl (lv_at hl 1 rfl) ?_
    refine x_get (pc := 32) X E hI inX10 0 rfl rfl 1 (by decide) tw_3_230 rfl dX10_places_32 ?_
    refine lv_iconst (pc := 35) (v := 2) hx hb dX10_places_35 (by decide) ?_
    refine lv_iconst (pc := 36) (v := 0) hx hb dX10_places_36 (by decide) ?_
    obtain ⟨t5, e5, hf⟩ := q_ob hf
    refine x_iast (pc := 37) (w' := (mw G h z_thrown t5 z_kept z_isKept z_moveMany z_moves z_hands z_troubles z_troubleSorts z_troubleNumbers z_asked z_paint z_leasts z_isSeen z_classMany z_types z_typeCounts z_typeMany z_text z_signs z_at z_lacks z_clauses z_begun z_letters z_firsts z_seconds z_aside z_sorts z_sizes z_items)) X E hI 1 rfl e5 rfl dX10_places_37 (fun H locs hI => ?_)
    refine lv_aload_n (pc := 38) hx hb dX10_places_38 rfl (lv_at hl 1 rfl) ?_
    obtain ⟨t6, e6, hf⟩ := q_ob hf
    refine x_cVs (pc := 39) (st1 := []) (w1 := (mw G h z_thrown t6 z_kept z_isKept z_moveMany z_moves z_hands z_troubles z_troubleSorts z_troubleNumbers z_asked z_paint z_leasts z_isSeen z_classMany z_types z_typeCounts z_typeMany z_text z_signs z_at z_lacks z_clauses z_begun z_letters z_firsts z_seconds z_aside z_sorts z_sizes z_items)) X E hI (c_X10_emptiesRacks l G h e6) kv_X10_78 hd_X10_emptiesRacks ⟨rfl, rfl⟩ (by decide) 0 rfl rfl rfl rfl hl.1 rfl (Nat.le_of_ble_eq_true rfl) dX10_places_39 ⟨Nat.le_of_ble_eq_true rfl, Nat.le_of_ble_eq_true rfl⟩ rfl (fun H locs hI => ?_)
    refine lv_iload_n (pc := 42) hx hb dX10_places_42 rfl (lv_at hl 0 rfl) ?_
    obtain rfl := Option.some.inj hf
    exact x_iret X hI dX10_places_43
  · have hf := q_ip c2 hf
    refine lv_bipush (pc := 14) (v := (-2)) hx hb dX10_places_14 (by decide) ?_
    obtain rfl := Option.some.inj hf
    exact x_iret X hI dX10_places_16

abbrev rm_X10_kinds : Room := { frames := 1, cells := 0, slots := 0, locals := 25 }
set_option maxHeartbeats 4000000 in
set_option maxRecDepth 100000 in
theorem c_X10_kinds (l : Launch) (G : GX) (h : Nat → Nat) {l1 : Int32} {z_s : Nat → Int32} {z_thrown : Int32} {z_kept : Nat → Int32} {z_isKept : Int32} {z_moveMany : Int32} {z_moves : Nat → Int32} {z_hands : Nat → Int32} {z_troubles : Int32} {z_troubleSorts : Nat → Int32} {z_troubleNumbers : Nat → Int32} {z_asked : Nat → Int32} {z_paint : Nat → Int32} {z_leasts : Nat → Int32} {z_isSeen : Nat → Int32} {z_classMany : Int32} {z_types : Nat → Int32} {z_typeCounts : Nat → Int32} {z_typeMany : Int32} {z_text : Nat → Int32} {z_signs : Int32} {z_at : Int32} {z_lacks : Int32} {z_clauses : Int32} {z_begun : Int32} {z_letters : Nat → Int32} {z_firsts : Nat → Int32} {z_seconds : Nat → Int32} {z_aside : Nat → Int32} {z_sorts : Nat → Int32} {z_sizes : Nat → Int32} {z_items : Nat → Int64} {res : Int32 × (Nat → Int32)} (hf : f_X10_kinds l1 z_s = some res) : MX l yX10_kinds cX10_kinds 3 (some .int) rm_X10_kinds G (mw G h z_thrown z_s z_kept z_isKept z_moveMany z_moves z_hands z_troubles z_troubleSorts z_troubleNumbers z_asked z_paint z_leasts z_isSeen z_classMany z_types z_typeCounts z_typeMany z_text z_signs z_at z_lacks z_clauses z_begun z_letters z_firsts z_seconds z_aside z_sorts z_sizes z_items) [.ref (h 0), .int l1] (mw G h z_thrown res.2 z_kept z_isKept z_moveMany z_moves z_hands z_troubles z_troubleSorts z_troubleNumbers z_asked z_paint z_leasts z_isSeen z_classMany z_types z_typeCounts z_typeMany z_text z_signs z_at z_lacks z_clauses z_begun z_letters z_firsts z_seconds z_aside z_sorts z_sizes z_items) (some (.int res.1)) 0 0 := by
  refine MX.of (plainFor_of_name (by decide)) (Nat.le_of_ble_eq_true rfl) ?_
  intro p e s m below meth c A X E hI ls hl
  obtain ⟨hx, hb, hml, hown, hts, hr, hlk⟩ := id X
  have hl : lv_has ls 3 [(0, .ref (h 0)), (1, .int l1)] := hl
  unfold f_X10_kinds at hf
  refine lv_iload_n (pc := 0) hx hb dX10_kinds_0 rfl (lv_at hl 1 rfl) ?_
  refine lv_i2l (pc := 1) (v := (l1 : Int32).toInt64) hx hb dX10_kinds_1 rfl ?_
  refine lv_lconst (pc := 2) (v := 1) hx hb dX10_kinds_2 (by decide) ?_
  refine lv_ldc2 (pc := 3) (v := 4) hx hb hown (hts _ tw_4_97) dX10_kinds_3 ?_
  obtain ⟨t1, e1, hf⟩ := q_ob hf
  refine x_cSn (pc := 6) (st1 := [.int t1]) X E hI (c_X10_in l G e1) ks_X10_85 hd_X10_in ⟨rfl, rfl⟩ (by decide) rfl hl.1 rfl (Nat.le_of_ble_eq_true rfl) dX10_kinds_6 ⟨Nat.le_of_ble_eq_true rfl, Nat.le_of_ble_eq_true rfl⟩ rfl (fun H locs hI => ?_)
  refine lv_if_ne (pc := 9) (tgt := 15) hx hb dX10_kinds_9 (by decide) (fun c2 => ?_) (fun c2 => ?_)
  · have hf := q_in c2 hf
    refine lv_aload_n (pc := 15) hx hb dX10_kinds_15 rfl (lv_at hl 0 rfl) ?_
    refine x_get (pc := 16) X E hI inX10 0 rfl rfl 1 (by decide) tw_3_230 rfl dX10_kinds_16 ?_
    refine lv_iconst (pc := 19) (v := 1) hx hb dX10_kinds_19 (by decide) ?_
    obtain ⟨t3, e3, hf⟩ := q_ob hf
    refine x_iald (pc := 20) X E hI 1 rfl e3 dX10_kinds_20 ?_
    refine lv_istore_n (pc := 21) (lv' := [(2, .int t3), (0, .ref (h 0)), (1, .int l1)]) hx hb dX10_kinds_21 rfl hl (by decide) rfl (fun ls hl => ?_)
    refine lv_aload_n (pc := 22) hx hb dX10_kinds_22 rfl (lv_at hl 1 rfl) ?_
    refine x_get (pc := 23) X E hI inX10 0 rfl rfl 1 (by decide) tw_3_230 rfl dX10_kinds_23 ?_
    refine lv_iconst (pc := 26) (v := 1) hx hb dX10_kinds_26 (by decide) ?_
    refine lv_iload_n (pc := 27) hx hb dX10_kinds_27 rfl (lv_at hl 2 rfl) ?_
    obtain ⟨t4, e4, hf⟩ := q_ob hf
    refine x_iast (pc := 28) (w' := (mw G h z_thrown t4 z_kept z_isKept z_moveMany z_moves z_hands z_troubles z_troubleSorts z_troubleNumbers z_asked z_paint z_leasts z_isSeen z_classMany z_types z_typeCounts z_typeMany z_text z_signs z_at z_lacks z_clauses z_begun z_letters z_firsts z_seconds z_aside z_sorts z_sizes z_items)) X E hI 1 rfl e4 rfl dX10_kinds_28 (fun H locs hI => ?_)
    refine lv_iload_n (pc := 29) hx hb dX10_kinds_29 rfl (lv_at hl 0 rfl) ?_
    obtain rfl := Option.some.inj hf
    exact x_iret X hI dX10_kinds_30
  · have hf := q_ip c2 hf
    refine lv_bipush (pc := 12) (v := (-2)) hx hb dX10_kinds_12 (by decide) ?_
    obtain rfl := Option.some.inj hf
    exact x_iret X hI dX10_kinds_14

abbrev rm_X10_weight : Room := { frames := 1, cells := 0, slots := 0, locals := 25 }
set_option maxHeartbeats 4000000 in
set_option maxRecDepth 100000 in
theorem c_X10_weight (l : Launch) (G : GX) (h : Nat → Nat) {l1 : Int32} {l2 : Int32} {z_s : Nat → Int32} {z_thrown : Int32} {z_kept : Nat → Int32} {z_isKept : Int32} {z_moveMany : Int32} {z_moves : Nat → Int32} {z_hands : Nat → Int32} {z_troubles : Int32} {z_troubleSorts : Nat → Int32} {z_troubleNumbers : Nat → Int32} {z_asked : Nat → Int32} {z_paint : Nat → Int32} {z_leasts : Nat → Int32} {z_isSeen : Nat → Int32} {z_classMany : Int32} {z_types : Nat → Int32} {z_typeCounts : Nat → Int32} {z_typeMany : Int32} {z_text : Nat → Int32} {z_signs : Int32} {z_at : Int32} {z_lacks : Int32} {z_clauses : Int32} {z_begun : Int32} {z_letters : Nat → Int32} {z_firsts : Nat → Int32} {z_seconds : Nat → Int32} {z_aside : Nat → Int32} {z_sorts : Nat → Int32} {z_sizes : Nat → Int32} {z_items : Nat → Int64} {res : Int32 × (Nat → Int32)} (hf : f_X10_weight l1 l2 z_s = some res) : MX l yX10_weight cX10_weight 4 (some .int) rm_X10_weight G (mw G h z_thrown z_s z_kept z_isKept z_moveMany z_moves z_hands z_troubles z_troubleSorts z_troubleNumbers z_asked z_paint z_leasts z_isSeen z_classMany z_types z_typeCounts z_typeMany z_text z_signs z_at z_lacks z_clauses z_begun z_letters z_firsts z_seconds z_aside z_sorts z_sizes z_items) [.ref (h 0), .int l1, .int l2] (mw G h z_thrown res.2 z_kept z_isKept z_moveMany z_moves z_hands z_troubles z_troubleSorts z_troubleNumbers z_asked z_paint z_leasts z_isSeen z_classMany z_types z_typeCounts z_typeMany z_text z_signs z_at z_lacks z_clauses z_begun z_letters z_firsts z_seconds z_aside z_sorts z_sizes z_items) (some (.int res.1)) 0 0 := by
  refine MX.of (plainFor_of_name (by decide)) (Nat.le_of_ble_eq_true rfl) ?_
  intro p e s m below meth c A X E hI ls hl
  obtain ⟨hx, hb, hml, hown, hts, hr, hlk⟩ := id X
  have hl : lv_has ls 4 [(0, .ref (h 0)), (1, .int l1), (2, .int l2)] := hl
  unfold f_X10_weight at hf
  refine lv_iload_n (pc := 0) hx hb dX10_weight_0 rfl (lv_at hl 1 rfl) ?_
  refine lv_i2l (pc := 1) (v := (l1 : Int32).toInt64) hx hb dX10_weight_1 rfl ?_
  refine lv_lconst (pc := 2) (v := 0) hx hb dX10_weight_2 (by decide) ?_
  refine lv_ldc2 (pc := 3) (v := 3) hx hb hown (hts _ tw_4_102) dX10_weight_3 ?_
  obtain ⟨t1, e1, hf⟩ := q_ob hf
  refine x_cSn (pc := 6) (st1 := [.int t1]) X E hI (c_X10_in l G e1) ks_X10_85 hd_X10_in ⟨rfl, rfl⟩ (by decide) rfl hl.1 rfl (Nat.le_of_ble_eq_true rfl) dX10_weight_6 ⟨Nat.le_of_ble_eq_true rfl, Nat.le_of_ble_eq_true rfl⟩ rfl (fun H locs hI => ?_)
  refine lv_if_ne (pc := 9) (tgt := 14) hx hb dX10_weight_9 (by decide) (fun c2 => ?_) (fun c2 => ?_)
  · have hf := q_in c2 hf
    refine lv_iload_n (pc := 14) hx hb dX10_weight_14 rfl (lv_at hl 2 rfl) ?_
    refine lv_i2l (pc := 15) (v := (l2 : Int32).toInt64) hx hb dX10_weight_15 rfl ?_
    refine lv_lconst (pc := 16) (v := 0) hx hb dX10_weight_16 (by decide) ?_
    refine lv_ldc2 (pc := 17) (v := 9) hx hb hown (hts _ tw_4_103) dX10_weight_17 ?_
    obtain ⟨t3, e3, hf⟩ := q_ob hf
    refine x_cSn (pc := 20) (st1 := [.int t3]) X E hI (c_X10_in l G e3) ks_X10_85 hd_X10_in ⟨rfl, rfl⟩ (by decide) rfl hl.1 rfl (Nat.le_of_ble_eq_true rfl) dX10_weight_20 ⟨Nat.le_of_ble_eq_true rfl, Nat.le_of_ble_eq_true rfl⟩ rfl (fun H locs hI => ?_)
    refine lv_if_ne (pc := 23) (tgt := 29) hx hb dX10_weight_23 (by decide) (fun c4 => ?_) (fun c4 => ?_)
    · have hf := q_in c4 hf
      refine lv_aload_n (pc := 29) hx hb dX10_weight_29 rfl (lv_at hl 0 rfl) ?_
      refine x_get (pc := 30) X E hI inX10 0 rfl rfl 1 (by decide) tw_3_230 rfl dX10_weight_30 ?_
      refine lv_iconst (pc := 33) (v := 5) hx hb dX10_weight_33 (by decide) ?_
      refine lv_iload_n (pc := 34) hx hb dX10_weight_34 rfl (lv_at hl 1 rfl) ?_
      refine lv_iadd (pc := 35) hx hb dX10_weight_35 ?_
      obtain ⟨t5, e5, hf⟩ := q_ob hf
      refine x_iald (pc := 36) X E hI 1 rfl e5 dX10_weight_36 ?_
      refine lv_istore_n (pc := 37) (lv' := [(3, .int t5), (0, .ref (h 0)), (1, .int l1), (2, .int l2)]) hx hb dX10_weight_37 rfl hl (by decide) rfl (fun ls hl => ?_)
      refine lv_aload_n (pc := 38) hx hb dX10_weight_38 rfl (lv_at hl 1 rfl) ?_
      refine x_get (pc := 39) X E hI inX10 0 rfl rfl 1 (by decide) tw_3_230 rfl dX10_weight_39 ?_
      refine lv_iconst (pc := 42) (v := 5) hx hb dX10_weight_42 (by decide) ?_
      refine lv_iload_n (pc := 43) hx hb dX10_weight_43 rfl (lv_at hl 2 rfl) ?_
      refine lv_iadd (pc := 44) hx hb dX10_weight_44 ?_
      refine lv_iload_n (pc := 45) hx hb dX10_weight_45 rfl (lv_at hl 3 rfl) ?_
      obtain ⟨t6, e6, hf⟩ := q_ob hf
      refine x_iast (pc := 46) (w' := (mw G h z_thrown t6 z_kept z_isKept z_moveMany z_moves z_hands z_troubles z_troubleSorts z_troubleNumbers z_asked z_paint z_leasts z_isSeen z_classMany z_types z_typeCounts z_typeMany z_text z_signs z_at z_lacks z_clauses z_begun z_letters z_firsts z_seconds z_aside z_sorts z_sizes z_items)) X E hI 1 rfl e6 rfl dX10_weight_46 (fun H locs hI => ?_)
      refine lv_iload_n (pc := 47) hx hb dX10_weight_47 rfl (lv_at hl 0 rfl) ?_
      obtain rfl := Option.some.inj hf
      exact x_iret X hI dX10_weight_48
    · have hf := q_ip c4 hf
      refine lv_bipush (pc := 26) (v := (-2)) hx hb dX10_weight_26 (by decide) ?_
      obtain rfl := Option.some.inj hf
      exact x_iret X hI dX10_weight_28
  · have hf := q_ip c2 hf
    refine lv_iconst (pc := 12) (v := (-1)) hx hb dX10_weight_12 (by decide) ?_
    obtain rfl := Option.some.inj hf
    exact x_iret X hI dX10_weight_13

abbrev rm_X10_isGenerator : Room := { frames := 1, cells := 0, slots := 0, locals := 25 }
set_option maxHeartbeats 4000000 in
set_option maxRecDepth 100000 in
theorem c_X10_isGenerator (l : Launch) (G : GX) (h : Nat → Nat) {l1 : Int32} {z_s : Nat → Int32} {z_thrown : Int32} {z_kept : Nat → Int32} {z_isKept : Int32} {z_moveMany : Int32} {z_moves : Nat → Int32} {z_hands : Nat → Int32} {z_troubles : Int32} {z_troubleSorts : Nat → Int32} {z_troubleNumbers : Nat → Int32} {z_asked : Nat → Int32} {z_paint : Nat → Int32} {z_leasts : Nat → Int32} {z_isSeen : Nat → Int32} {z_classMany : Int32} {z_types : Nat → Int32} {z_typeCounts : Nat → Int32} {z_typeMany : Int32} {z_text : Nat → Int32} {z_signs : Int32} {z_at : Int32} {z_lacks : Int32} {z_clauses : Int32} {z_begun : Int32} {z_letters : Nat → Int32} {z_firsts : Nat → Int32} {z_seconds : Nat → Int32} {z_aside : Nat → Int32} {z_sorts : Nat → Int32} {z_sizes : Nat → Int32} {z_items : Nat → Int64} {res : Int32} (hf : f_X10_isGenerator l1 z_s = some res) : MX l yX10_isGenerator cX10_isGenerator 2 (some .boolean) rm_X10_isGenerator G (mw G h z_thrown z_s z_kept z_isKept z_moveMany z_moves z_hands z_troubles z_troubleSorts z_troubleNumbers z_asked z_paint z_leasts z_isSeen z_classMany z_types z_typeCounts z_typeMany z_text z_signs z_at z_lacks z_clauses z_begun z_letters z_firsts z_seconds z_aside z_sorts z_sizes z_items) [.ref (h 0), .int l1] (mw G h z_thrown z_s z_kept z_isKept z_moveMany z_moves z_hands z_troubles z_troubleSorts z_troubleNumbers z_asked z_paint z_leasts z_isSeen z_classMany z_types z_typeCounts z_typeMany z_text z_signs z_at z_lacks z_clauses z_begun z_letters z_firsts z_seconds z_aside z_sorts z_sizes z_items) (some (.int res)) 0 0 := by
  refine MX.of (plainFor_of_name (by decide)) (Nat.le_of_ble_eq_true rfl) ?_
  intro p e s m below meth c A X E hI ls hl
  obtain ⟨hx, hb, hml, hown, hts, hr, hlk⟩ := id X
  have hl : lv_has ls 2 [(0, .ref (h 0)), (1, .int l1)] := hl
  unfold f_X10_isGenerator at hf
  refine lv_iload_n (pc := 0) hx hb dX10_isGenerator_0 rfl (lv_at hl 1 rfl) ?_
  refine lv_i2l (pc := 1) (v := (l1 : Int32).toInt64) hx hb dX10_isGenerator_1 rfl ?_
  refine lv_lconst (pc := 2) (v := 0) hx hb dX10_isGenerator_2 (by decide) ?_
  refine lv_aload_n (pc := 3) hx hb dX10_isGenerator_3 rfl (lv_at hl 0 rfl) ?_
  refine x_get (pc := 4) X E hI inX10 0 rfl rfl 1 (by decide) tw_3_230 rfl dX10_isGenerator_4 ?_
  refine lv_iconst (pc := 7) (v := 2) hx hb dX10_isGenerator_7 (by decide) ?_
  obtain ⟨t1, e1, hf⟩ := q_ob hf
  refine x_iald (pc := 8) X E hI 1 rfl e1 dX10_isGenerator_8 ?_
  refine lv_iconst (pc := 9) (v := 1) hx hb dX10_isGenerator_9 (by decide) ?_
  refine lv_isub (pc := 10) hx hb dX10_isGenerator_10 ?_
  refine lv_i2l (pc := 11) (v := (t1 - 1 : Int32).toInt64) hx hb dX10_isGenerator_11 rfl ?_
  obtain ⟨t2, e2, hf⟩ := q_ob hf
  refine x_cSn (pc := 12) (st1 := [.int t2]) X E hI (c_X10_in l G e2) ks_X10_85 hd_X10_in ⟨rfl, rfl⟩ (by decide) rfl hl.1 rfl (Nat.le_of_ble_eq_true rfl) dX10_isGenerator_12 ⟨Nat.le_of_ble_eq_true rfl, Nat.le_of_ble_eq_true rfl⟩ rfl (fun H locs hI => ?_)
  obtain ⟨t3, e3, hf⟩ := q_ob hf
  obtain ⟨hz, rfl⟩ := q_rz_i e3
  obtain rfl := Option.some.inj hf
  exact x_zret X hI hz dX10_isGenerator_15

abbrev rm_X10_digit : Room := { frames := 0, cells := 0, slots := 0, locals := 0 }
set_option maxHeartbeats 4000000 in
set_option maxRecDepth 100000 in
theorem c_X10_digit (l : Launch) (G : GX) (h : Nat → Nat) {l1 : Int32} {l2 : Int32} {z_moves : Nat → Int32} {z_thrown : Int32} {z_s : Nat → Int32} {z_kept : Nat → Int32} {z_isKept : Int32} {z_moveMany : Int32} {z_hands : Nat → Int32} {z_troubles : Int32} {z_troubleSorts : Nat → Int32} {z_troubleNumbers : Nat → Int32} {z_asked : Nat → Int32} {z_paint : Nat → Int32} {z_leasts : Nat → Int32} {z_isSeen : Nat → Int32} {z_classMany : Int32} {z_types : Nat → Int32} {z_typeCounts : Nat → Int32} {z_typeMany : Int32} {z_text : Nat → Int32} {z_signs : Int32} {z_at : Int32} {z_lacks : Int32} {z_clauses : Int32} {z_begun : Int32} {z_letters : Nat → Int32} {z_firsts : Nat → Int32} {z_seconds : Nat → Int32} {z_aside : Nat → Int32} {z_sorts : Nat → Int32} {z_sizes : Nat → Int32} {z_items : Nat → Int64} {res : Int32} (hf : f_X10_digit l1 l2 z_moves = some res) : MX l yX10_digit cX10_digit 3 (some .int) rm_X10_digit G (mw G h z_thrown z_s z_kept z_isKept z_moveMany z_moves z_hands z_troubles z_troubleSorts z_troubleNumbers z_asked z_paint z_leasts z_isSeen z_classMany z_types z_typeCounts z_typeMany z_text z_signs z_at z_lacks z_clauses z_begun z_letters z_firsts z_seconds z_aside z_sorts z_sizes z_items) [.ref (h 0), .int l1, .int l2] (mw G h z_thrown z_s z_kept z_isKept z_moveMany z_moves z_hands z_troubles z_troubleSorts z_troubleNumbers z_asked z_paint z_leasts z_isSeen z_classMany z_types z_typeCounts z_typeMany z_text z_signs z_at z_lacks z_clauses z_begun z_letters z_firsts z_seconds z_aside z_sorts z_sizes z_items) (some (.int res)) 0 0 := by
  refine MX.of (plainFor_of_name (by decide)) (Nat.le_of_ble_eq_true rfl) ?_
  intro p e s m below meth c A X E hI ls hl
  obtain ⟨hx, hb, hml, hown, hts, hr, hlk⟩ := id X
  have hl : lv_has ls 3 [(0, .ref (h 0)), (1, .int l1), (2, .int l2)] := hl
  unfold f_X10_digit at hf
  refine lv_aload_n (pc := 0) hx hb dX10_digit_0 rfl (lv_at hl 0 rfl) ?_
  refine x_get (pc := 1) X E hI inX10 0 rfl rfl 5 (by decide) tw_3_234 rfl dX10_digit_1 ?_
  refine lv_bipush (pc := 4) (v := 6) hx hb dX10_digit_4 (by decide) ?_
  refine lv_iload_n (pc := 6) hx hb dX10_digit_6 rfl (lv_at hl 1 rfl) ?_
  refine lv_imul (pc := 7) hx hb dX10_digit_7 ?_
  refine lv_iload_n (pc := 8) hx hb dX10_digit_8 rfl (lv_at hl 2 rfl) ?_
  refine lv_iadd (pc := 9) hx hb dX10_digit_9 ?_
  obtain ⟨t1, e1, hf⟩ := q_ob hf
  refine x_iald (pc := 10) X E hI 3 rfl e1 dX10_digit_10 ?_
  obtain rfl := Option.some.inj hf
  exact x_iret X hI dX10_digit_11

abbrev rm_X10_numberOf : Room := { frames := 1, cells := 0, slots := 0, locals := 22 }
set_option maxHeartbeats 4000000 in
set_option maxRecDepth 100000 in
theorem k_X10_numberOf_L4 {p : Program} {l : Launch} {e : Env} {s : State} {m : MethodId} {args : Array Value} {below : List Frame} {meth : Method} {c : Code} {A : Nat → Prop} {G : GX} {h : Nat → Nat} {l1 : Int32} {z_thrown : Int32} {z_s : Nat → Int32} {z_kept : Nat → Int32} {z_isKept : Int32} {z_moveMany : Int32} {z_moves : Nat → Int32} {z_hands : Nat → Int32} {z_troubles : Int32} {z_troubleSorts : Nat → Int32} {z_troubleNumbers : Nat → Int32} {z_asked : Nat → Int32} {z_paint : Nat → Int32} {z_leasts : Nat → Int32} {z_isSeen : Nat → Int32} {z_classMany : Int32} {z_types : Nat → Int32} {z_typeCounts : Nat → Int32} {z_typeMany : Int32} {z_text : Nat → Int32} {z_signs : Int32} {z_at : Int32} {z_lacks : Int32} {z_clauses : Int32} {z_begun : Int32} {z_letters : Nat → Int32} {z_firsts : Nat → Int32} {z_seconds : Nat → Int32} {z_aside : Nat → Int32} {z_sorts : Nat → Int32} {z_sizes : Nat → Int32} {z_items : Nat → Int64} {K : Int32 → Int32 → Option (Int32)} {res : Int32} (X : CX RX10 cX10_numberOf 4 (some .int) p s m args meth c) (E : EX G A s)
    (hK : ∀ (l2 : Int32) (l3 : Int32) (H : Heap) (locs : List Loc) (ls : Array Slot), IN A G (mw G h z_thrown z_s z_kept z_isKept z_moveMany z_moves z_hands z_troubles z_troubleSorts z_troubleNumbers z_asked z_paint z_leasts z_isSeen z_classMany z_types z_typeCounts z_typeMany z_text z_signs z_at z_lacks z_clauses z_begun z_letters z_firsts z_seconds z_aside z_sorts z_sizes z_items) s H locs → lv_has ls 4 [(0, .ref (h 0)), (1, .int l1), (2, .int l2), (3, .int l3)] → K l2 l3 = some res → W p l e rm_X10_numberOf s m args below meth c H locs 0 0 (MQ below (QX G A (mw G h z_thrown z_s z_kept z_isKept z_moveMany z_moves z_hands z_troubles z_troubleSorts z_troubleNumbers z_asked z_paint z_leasts z_isSeen z_classMany z_types z_typeCounts z_typeMany z_text z_signs z_at z_lacks z_clauses z_begun z_letters z_firsts z_seconds z_aside z_sorts z_sizes z_items) (some (.int res))) args s 0 0 A) (F0 m 34 ls [])) :
    ∀ {k : Nat} {l2 : Int32} {l3 : Int32} {H : Heap} {locs : List Loc} {ls : Array Slot}, IN A G (mw G h z_thrown z_s z_kept z_isKept z_moveMany z_moves z_hands z_troubles z_troubleSorts z_troubleNumbers z_asked z_paint z_leasts z_isSeen z_classMany z_types z_typeCounts z_typeMany z_text z_signs z_at z_lacks z_clauses z_begun z_letters z_firsts z_seconds z_aside z_sorts z_sizes z_items) s H locs → lv_has ls 4 [(0, .ref (h 0)), (1, .int l1), (2, .int l2), (3, .int l3)] → f_X10_numberOf_L4 l1 z_s z_moves K k l2 l3 = some res → W p l e rm_X10_numberOf s m args below meth c H locs 0 0 (MQ below (QX G A (mw G h z_thrown z_s z_kept z_isKept z_moveMany z_moves z_hands z_troubles z_troubleSorts z_troubleNumbers z_asked z_paint z_leasts z_isSeen z_classMany z_types z_typeCounts z_typeMany z_text z_signs z_at z_lacks z_clauses z_begun z_letters z_firsts z_seconds z_aside z_sorts z_sizes z_items) (some (.int res))) args s 0 0 A) (F0 m 4 ls []) := by
  obtain ⟨hx, hb, hml, hown, hts, hr, hlk⟩ := id X
  intro k
  induction k with
  | zero => intro l2 l3 H locs ls hI hl hf; exact nomatch (show none = some res from hf)
  | succ k ih =>
    intro l2 l3 H locs ls hI hl hf
    rw [f_X10_numberOf_L4] at hf
    refine lv_iload_n (pc := 4) hx hb dX10_numberOf_4 rfl (lv_at hl 3 rfl) ?_
    refine lv_aload_n (pc := 5) hx hb dX10_numberOf_5 rfl (lv_at hl 0 rfl) ?_
    refine x_get (pc := 6) X E hI inX10 0 rfl rfl 1 (by decide) tw_3_230 rfl dX10_numberOf_6 ?_
    refine lv_iconst (pc := 9) (v := 0) hx hb dX10_numberOf_9 (by decide) ?_
    obtain ⟨t1, e1, hf⟩ := q_ob hf
    refine x_iald (pc := 10) X E hI 1 rfl e1 dX10_numberOf_10 ?_
    refine lv_icmp_ge (pc := 11) (tgt := 34) hx hb dX10_numberOf_11 (by decide) (fun c2 => ?_) (fun c2 => ?_)
    · have hf := q_ip c2 hf
      exact hK _ _ _ _ _ hI (lv_sub hl [0, 1, 2, 3] rfl) hf
    · have hf := q_in c2 hf
      refine lv_bipush (pc := 14) (v := 10) hx hb dX10_numberOf_14 (by decide) ?_
      refine lv_iload_n (pc := 16) hx hb dX10_numberOf_16 rfl (lv_at hl 2 rfl) ?_
      refine lv_imul (pc := 17) hx hb dX10_numberOf_17 ?_
      refine lv_aload_n (pc := 18) hx hb dX10_numberOf_18 rfl (lv_at hl 0 rfl) ?_
      refine lv_iload_n (pc := 19) hx hb dX10_numberOf_19 rfl (lv_at hl 1 rfl) ?_
      refine lv_iload_n (pc := 20) hx hb dX10_numberOf_20 rfl (lv_at hl 3 rfl) ?_
      obtain ⟨t3, e3, hf⟩ := q_ob hf
      refine x_cVs (pc := 21) (st1 := [.int t3, .int (10 * l2)]) (w1 := (mw G h z_thrown z_s z_kept z_isKept z_moveMany z_moves z_hands z_troubles z_troubleSorts z_troubleNumbers z_asked z_paint z_leasts z_isSeen z_classMany z_types z_typeCounts z_typeMany z_text z_signs z_at z_lacks z_clauses z_begun z_letters z_firsts z_seconds z_aside z_sorts z_sizes z_items)) X E hI (c_X10_digit l G h e3) kv_X10_95 hd_X10_digit ⟨rfl, rfl⟩ (by decide) 0 rfl rfl rfl rfl hl.1 rfl (Nat.le_of_ble_eq_true rfl) dX10_numberOf_21 ⟨Nat.le_of_ble_eq_true rfl, Nat.le_of_ble_eq_true rfl⟩ rfl (fun H locs hI => ?_)
      refine lv_iadd (pc := 24) hx hb dX10_numberOf_24 ?_
      refine lv_iconst (pc := 25) (v := 1) hx hb dX10_numberOf_25 (by decide) ?_
      refine lv_iadd (pc := 26) hx hb dX10_numberOf_26 ?_
      refine lv_istore_n (pc := 27) (lv' := [(2, .int (((10 * l2) + t3) + 1)), (0, .ref (h 0)), (1, .int l1), (3, .int l3)]) hx hb dX10_numberOf_27 rfl hl (by decide) rfl (fun ls hl => ?_)
      refine lv_iinc (pc := 28) (v := l3 + 1) (lv' := [(3, .int (l3 + 1)), (2, .int (((10 * l2) + t3) + 1)), (0, .ref (h 0)), (1, .int l1)]) hx hb dX10_numberOf_28 hl (k := 3) rfl rfl (by decide) rfl (fun ls hl => ?_)
      refine lv_goto (pc := 31) (tgt := 4) hx hb dX10_numberOf_31 (by decide) ?_
      exact ih hI (lv_sub hl [2, 3, 1, 0] rfl) hf

set_option maxHeartbeats 4000000 in
set_option maxRecDepth 100000 in
theorem c_X10_numberOf (l : Launch) (G : GX) (h : Nat → Nat) {l1 : Int32} {z_s : Nat → Int32} {z_moves : Nat → Int32} {z_thrown : Int32} {z_kept : Nat → Int32} {z_isKept : Int32} {z_moveMany : Int32} {z_hands : Nat → Int32} {z_troubles : Int32} {z_troubleSorts : Nat → Int32} {z_troubleNumbers : Nat → Int32} {z_asked : Nat → Int32} {z_paint : Nat → Int32} {z_leasts : Nat → Int32} {z_isSeen : Nat → Int32} {z_classMany : Int32} {z_types : Nat → Int32} {z_typeCounts : Nat → Int32} {z_typeMany : Int32} {z_text : Nat → Int32} {z_signs : Int32} {z_at : Int32} {z_lacks : Int32} {z_clauses : Int32} {z_begun : Int32} {z_letters : Nat → Int32} {z_firsts : Nat → Int32} {z_seconds : Nat → Int32} {z_aside : Nat → Int32} {z_sorts : Nat → Int32} {z_sizes : Nat → Int32} {z_items : Nat → Int64} {res : Int32} (hf : f_X10_numberOf l1 z_s z_moves = some res) : MX l yX10_numberOf cX10_numberOf 4 (some .int) rm_X10_numberOf G (mw G h z_thrown z_s z_kept z_isKept z_moveMany z_moves z_hands z_troubles z_troubleSorts z_troubleNumbers z_asked z_paint z_leasts z_isSeen z_classMany z_types z_typeCounts z_typeMany z_text z_signs z_at z_lacks z_clauses z_begun z_letters z_firsts z_seconds z_aside z_sorts z_sizes z_items) [.ref (h 0), .int l1] (mw G h z_thrown z_s z_kept z_isKept z_moveMany z_moves z_hands z_troubles z_troubleSorts z_troubleNumbers z_asked z_paint z_leasts z_isSeen z_classMany z_types z_typeCounts z_typeMany z_text z_signs z_at z_lacks z_clauses z_begun z_letters z_firsts z_seconds z_aside z_sorts z_sizes z_items) (some (.int res)) 0 0 := by
  refine MX.of (plainFor_of_name (by decide)) (Nat.le_of_ble_eq_true rfl) ?_
  intro p e s m below meth c A X E hI ls hl
  obtain ⟨hx, hb, hml, hown, hts, hr, hlk⟩ := id X
  have hl : lv_has ls 4 [(0, .ref (h 0)), (1, .int l1)] := hl
  unfold f_X10_numberOf at hf
  refine lv_iconst (pc := 0) (v := 0) hx hb dX10_numberOf_0 (by decide) ?_
  refine lv_istore_n (pc := 1) (lv' := [(2, .int 0), (0, .ref (h 0)), (1, .int l1)]) hx hb dX10_numberOf_1 rfl hl (by decide) rfl (fun ls hl => ?_)
  refine lv_iconst (pc := 2) (v := 0) hx hb dX10_numberOf_2 (by decide) ?_
  refine lv_istore_n (pc := 3) (lv' := [(3, .int 0), (2, .int 0), (0, .ref (h 0)), (1, .int l1)]) hx hb dX10_numberOf_3 rfl hl (by decide) rfl (fun ls hl => ?_)
  refine k_X10_numberOf_L4 X E (fun l2_1 l3_1 H locs ls hI hl hf => ?_) hI (lv_sub hl [2, 3, 1, 0] rfl) hf
  refine lv_iload_n (pc := 34) hx hb dX10_numberOf_34 rfl (lv_at hl 2 rfl) ?_
  obtain rfl := Option.some.inj hf
  exact x_iret X hI dX10_numberOf_35

abbrev rm_X10_areAlike : Room := { frames := 2, cells := 0, slots := 0, locals := 45 }
set_option maxHeartbeats 4000000 in
set_option maxRecDepth 100000 in
theorem c_X10_areAlike (l : Launch) (G : GX) (h : Nat → Nat) {l1 : Int32} {l2 : Int32} {z_s : Nat → Int32} {z_moves : Nat → Int32} {z_hands : Nat → Int32} {z_thrown : Int32} {z_kept : Nat → Int32} {z_isKept : Int32} {z_moveMany : Int32} {z_troubles : Int32} {z_troubleSorts : Nat → Int32} {z_troubleNumbers : Nat → Int32} {z_asked : Nat → Int32} {z_paint : Nat → Int32} {z_leasts : Nat → Int32} {z_isSeen : Nat → Int32} {z_classMany : Int32} {z_types : Nat → Int32} {z_typeCounts : Nat → Int32} {z_typeMany : Int32} {z_text : Nat → Int32} {z_signs : Int32} {z_at : Int32} {z_lacks : Int32} {z_clauses : Int32} {z_begun : Int32} {z_letters : Nat → Int32} {z_firsts : Nat → Int32} {z_seconds : Nat → Int32} {z_aside : Nat → Int32} {z_sorts : Nat → Int32} {z_sizes : Nat → Int32} {z_items : Nat → Int64} {res : Int32} (hf : f_X10_areAlike l1 l2 z_s z_moves z_hands = some res) : MX l yX10_areAlike cX10_areAlike 3 (some .boolean) rm_X10_areAlike G (mw G h z_thrown z_s z_kept z_isKept z_moveMany z_moves z_hands z_troubles z_troubleSorts z_troubleNumbers z_asked z_paint z_leasts z_isSeen z_classMany z_types z_typeCounts z_typeMany z_text z_signs z_at z_lacks z_clauses z_begun z_letters z_firsts z_seconds z_aside z_sorts z_sizes z_items) [.ref (h 0), .int l1, .int l2] (mw G h z_thrown z_s z_kept z_isKept z_moveMany z_moves z_hands z_troubles z_troubleSorts z_troubleNumbers z_asked z_paint z_leasts z_isSeen z_classMany z_types z_typeCounts z_typeMany z_text z_signs z_at z_lacks z_clauses z_begun z_letters z_firsts z_seconds z_aside z_sorts z_sizes z_items) (some (.int res)) 0 0 := by
  refine MX.of (plainFor_of_name (by decide)) (Nat.le_of_ble_eq_true rfl) ?_
  intro p e s m below meth c A X E hI ls hl
  obtain ⟨hx, hb, hml, hown, hts, hr, hlk⟩ := id X
  have hl : lv_has ls 3 [(0, .ref (h 0)), (1, .int l1), (2, .int l2)] := hl
  unfold f_X10_areAlike at hf
  refine lv_aload_n (pc := 0) hx hb dX10_areAlike_0 rfl (lv_at hl 0 rfl) ?_
  refine lv_iload_n (pc := 1) hx hb dX10_areAlike_1 rfl (lv_at hl 1 rfl) ?_
  obtain ⟨t1, e1, hf⟩ := q_ob hf
  refine x_cVs (pc := 2) (st1 := [.int t1]) (w1 := (mw G h z_thrown z_s z_kept z_isKept z_moveMany z_moves z_hands z_troubles z_troubleSorts z_troubleNumbers z_asked z_paint z_leasts z_isSeen z_classMany z_types z_typeCounts z_typeMany z_text z_signs z_at z_lacks z_clauses z_begun z_letters z_firsts z_seconds z_aside z_sorts z_sizes z_items)) X E hI (c_X10_numberOf l G h e1) kv_X10_99 hd_X10_numberOf ⟨rfl, rfl⟩ (by decide) 0 rfl rfl rfl rfl hl.1 rfl (Nat.le_of_ble_eq_true rfl) dX10_areAlike_2 ⟨Nat.le_of_ble_eq_true rfl, Nat.le_of_ble_eq_true rfl⟩ rfl (fun H locs hI => ?_)
  refine lv_aload_n (pc := 5) hx hb dX10_areAlike_5 rfl (lv_at hl 0 rfl) ?_
  refine lv_iload_n (pc := 6) hx hb dX10_areAlike_6 rfl (lv_at hl 2 rfl) ?_
  obtain ⟨t2, e2, hf⟩ := q_ob hf
  refine x_cVs (pc := 7) (st1 := [.int t2, .int t1]) (w1 := (mw G h z_thrown z_s z_kept z_isKept z_moveMany z_moves z_hands z_troubles z_troubleSorts z_troubleNumbers z_asked z_paint z_leasts z_isSeen z_classMany z_types z_typeCounts z_typeMany z_text z_signs z_at z_lacks z_clauses z_begun z_letters z_firsts z_seconds z_aside z_sorts z_sizes z_items)) X E hI (c_X10_numberOf l G h e2) kv_X10_99 hd_X10_numberOf ⟨rfl, rfl⟩ (by decide) 0 rfl rfl rfl rfl hl.1 rfl (Nat.le_of_ble_eq_true rfl) dX10_areAlike_7 ⟨Nat.le_of_ble_eq_true rfl, Nat.le_of_ble_eq_true rfl⟩ rfl (fun H locs hI => ?_)
  refine lv_icmp_ne (pc := 10) (tgt := 32) hx hb dX10_areAlike_10 (by decide) (fun c3 => ?_) (fun c3 => ?_)
  · have hf := q_in c3 hf
    refine lv_iconst (pc := 32) (v := 0) hx hb dX10_areAlike_32 (by decide) ?_
    obtain rfl := Option.some.inj hf
    exact x_zret X hI (Or.inl rfl) dX10_areAlike_33
  · have hf := q_ip c3 hf
    refine lv_aload_n (pc := 13) hx hb dX10_areAlike_13 rfl (lv_at hl 0 rfl) ?_
    refine x_get (pc := 14) X E hI inX10 0 rfl rfl 6 (by decide) tw_3_235 rfl dX10_areAlike_14 ?_
    refine lv_iload_n (pc := 17) hx hb dX10_areAlike_17 rfl (lv_at hl 1 rfl) ?_
    obtain ⟨t4, e4, hf⟩ := q_ob hf
    refine x_iald (pc := 18) X E hI 4 rfl e4 dX10_areAlike_18 ?_
    refine lv_aload_n (pc := 19) hx hb dX10_areAlike_19 rfl (lv_at hl 0 rfl) ?_
    refine x_get (pc := 20) X E hI inX10 0 rfl rfl 6 (by decide) tw_3_235 rfl dX10_areAlike_20 ?_
    refine lv_iload_n (pc := 23) hx hb dX10_areAlike_23 rfl (lv_at hl 2 rfl) ?_
    obtain ⟨t5, e5, hf⟩ := q_ob hf
    refine x_iald (pc := 24) X E hI 4 rfl e5 dX10_areAlike_24 ?_
    refine lv_icmp_ne (pc := 25) (tgt := 32) hx hb dX10_areAlike_25 (by decide) (fun c6 => ?_) (fun c6 => ?_)
    · have hf := q_in c6 hf
      refine lv_iconst (pc := 32) (v := 0) hx hb dX10_areAlike_32 (by decide) ?_
      obtain rfl := Option.some.inj hf
      exact x_zret X hI (Or.inl rfl) dX10_areAlike_33
    · have hf := q_ip c6 hf
      refine lv_iconst (pc := 28) (v := 1) hx hb dX10_areAlike_28 (by decide) ?_
      refine lv_goto (pc := 29) (tgt := 33) hx hb dX10_areAlike_29 (by decide) ?_
      obtain rfl := Option.some.inj hf
      exact x_zret X hI (Or.inr rfl) dX10_areAlike_33

abbrev rm_X10_isKnown : Room := { frames := 3, cells := 0, slots := 0, locals := 67 }
set_option maxHeartbeats 4000000 in
set_option maxRecDepth 100000 in
theorem k_X10_isKnown_L2 {p : Program} {l : Launch} {e : Env} {s : State} {m : MethodId} {args : Array Value} {below : List Frame} {meth : Method} {c : Code} {A : Nat → Prop} {G : GX} {h : Nat → Nat} {l1 : Int32} {z_thrown : Int32} {z_s : Nat → Int32} {z_kept : Nat → Int32} {z_isKept : Int32} {z_moveMany : Int32} {z_moves : Nat → Int32} {z_hands : Nat → Int32} {z_troubles : Int32} {z_troubleSorts : Nat → Int32} {z_troubleNumbers : Nat → Int32} {z_asked : Nat → Int32} {z_paint : Nat → Int32} {z_leasts : Nat → Int32} {z_isSeen : Nat → Int32} {z_classMany : Int32} {z_types : Nat → Int32} {z_typeCounts : Nat → Int32} {z_typeMany : Int32} {z_text : Nat → Int32} {z_signs : Int32} {z_at : Int32} {z_lacks : Int32} {z_clauses : Int32} {z_begun : Int32} {z_letters : Nat → Int32} {z_firsts : Nat → Int32} {z_seconds : Nat → Int32} {z_aside : Nat → Int32} {z_sorts : Nat → Int32} {z_sizes : Nat → Int32} {z_items : Nat → Int64} {K : Int32 → Option (Int32)} {res : Int32} (X : CX RX10 cX10_isKnown 3 (some .boolean) p s m args meth c) (E : EX G A s)
    (hK : ∀ (l2 : Int32) (H : Heap) (locs : List Loc) (ls : Array Slot), IN A G (mw G h z_thrown z_s z_kept z_isKept z_moveMany z_moves z_hands z_troubles z_troubleSorts z_troubleNumbers z_asked z_paint z_leasts z_isSeen z_classMany z_types z_typeCounts z_typeMany z_text z_signs z_at z_lacks z_clauses z_begun z_letters z_firsts z_seconds z_aside z_sorts z_sizes z_items) s H locs → lv_has ls 3 [(0, .ref (h 0)), (1, .int l1), (2, .int l2)] → K l2 = some res → W p l e rm_X10_isKnown s m args below meth c H locs 0 0 (MQ below (QX G A (mw G h z_thrown z_s z_kept z_isKept z_moveMany z_moves z_hands z_troubles z_troubleSorts z_troubleNumbers z_asked z_paint z_leasts z_isSeen z_classMany z_types z_typeCounts z_typeMany z_text z_signs z_at z_lacks z_clauses z_begun z_letters z_firsts z_seconds z_aside z_sorts z_sizes z_items) (some (.int res))) args s 0 0 A) (F0 m 24 ls [])) :
    ∀ {k : Nat} {l2 : Int32} {H : Heap} {locs : List Loc} {ls : Array Slot}, IN A G (mw G h z_thrown z_s z_kept z_isKept z_moveMany z_moves z_hands z_troubles z_troubleSorts z_troubleNumbers z_asked z_paint z_leasts z_isSeen z_classMany z_types z_typeCounts z_typeMany z_text z_signs z_at z_lacks z_clauses z_begun z_letters z_firsts z_seconds z_aside z_sorts z_sizes z_items) s H locs → lv_has ls 3 [(0, .ref (h 0)), (1, .int l1), (2, .int l2)] → f_X10_isKnown_L2 l1 z_s z_moves z_hands K k l2 = some res → W p l e rm_X10_isKnown s m args below meth c H locs 0 0 (MQ below (QX G A (mw G h z_thrown z_s z_kept z_isKept z_moveMany z_moves z_hands z_troubles z_troubleSorts z_troubleNumbers z_asked z_paint z_leasts z_isSeen z_classMany z_types z_typeCounts z_typeMany z_text z_signs z_at z_lacks z_clauses z_begun z_letters z_firsts z_seconds z_aside z_sorts z_sizes z_items) (some (.int res))) args s 0 0 A) (F0 m 2 ls []) := by
  obtain ⟨hx, hb, hml, hown, hts, hr, hlk⟩ := id X
  intro k
  induction k with
  | zero => intro l2 H locs ls hI hl hf; exact nomatch (show none = some res from hf)
  | succ k ih =>
    intro l2 H locs ls hI hl hf
    rw [f_X10_isKnown_L2] at hf
    refine lv_iload_n (pc := 2) hx hb dX10_isKnown_2 rfl (lv_at hl 2 rfl) ?_
    refine lv_iload_n (pc := 3) hx hb dX10_isKnown_3 rfl (lv_at hl 1 rfl) ?_
    refine lv_icmp_ge (pc := 4) (tgt := 24) hx hb dX10_isKnown_4 (by decide) (fun c1 => ?_) (fun c1 => ?_)
    · have hf := q_ip c1 hf
      exact hK _ _ _ _ hI (lv_sub hl [0, 1, 2] rfl) hf
    · have hf := q_in c1 hf
      refine lv_aload_n (pc := 7) hx hb dX10_isKnown_7 rfl (lv_at hl 0 rfl) ?_
      refine lv_iload_n (pc := 8) hx hb dX10_isKnown_8 rfl (lv_at hl 2 rfl) ?_
      refine lv_iload_n (pc := 9) hx hb dX10_isKnown_9 rfl (lv_at hl 1 rfl) ?_
      obtain ⟨t2, e2, hf⟩ := q_ob hf
      refine x_cVs (pc := 10) (st1 := [.int t2]) (w1 := (mw G h z_thrown z_s z_kept z_isKept z_moveMany z_moves z_hands z_troubles z_troubleSorts z_troubleNumbers z_asked z_paint z_leasts z_isSeen z_classMany z_types z_typeCounts z_typeMany z_text z_signs z_at z_lacks z_clauses z_begun z_letters z_firsts z_seconds z_aside z_sorts z_sizes z_items)) X E hI (c_X10_areAlike l G h e2) kv_X10_103 hd_X10_areAlike ⟨rfl, rfl⟩ (by decide) 0 rfl rfl rfl rfl hl.1 rfl (Nat.le_of_ble_eq_true rfl) dX10_isKnown_10 ⟨Nat.le_of_ble_eq_true rfl, Nat.le_of_ble_eq_true rfl⟩ rfl (fun H locs hI => ?_)
      refine lv_if_eq (pc := 13) (tgt := 18) hx hb dX10_isKnown_13 (by decide) (fun c3 => ?_) (fun c3 => ?_)
      · have hf := q_ip c3 hf
        refine lv_iinc (pc := 18) (v := l2 + 1) (lv' := [(2, .int (l2 + 1)), (0, .ref (h 0)), (1, .int l1)]) hx hb dX10_isKnown_18 hl (k := 2) rfl rfl (by decide) rfl (fun ls hl => ?_)
        refine lv_goto (pc := 21) (tgt := 2) hx hb dX10_isKnown_21 (by decide) ?_
        exact ih hI (lv_sub hl [1, 2, 0] rfl) hf
      · have hf := q_in c3 hf
        refine lv_iconst (pc := 16) (v := 1) hx hb dX10_isKnown_16 (by decide) ?_
        obtain rfl := Option.some.inj hf
        exact x_zret X hI (Or.inr rfl) dX10_isKnown_17

set_option maxHeartbeats 4000000 in
set_option maxRecDepth 100000 in
theorem c_X10_isKnown (l : Launch) (G : GX) (h : Nat → Nat) {l1 : Int32} {z_s : Nat → Int32} {z_moves : Nat → Int32} {z_hands : Nat → Int32} {z_thrown : Int32} {z_kept : Nat → Int32} {z_isKept : Int32} {z_moveMany : Int32} {z_troubles : Int32} {z_troubleSorts : Nat → Int32} {z_troubleNumbers : Nat → Int32} {z_asked : Nat → Int32} {z_paint : Nat → Int32} {z_leasts : Nat → Int32} {z_isSeen : Nat → Int32} {z_classMany : Int32} {z_types : Nat → Int32} {z_typeCounts : Nat → Int32} {z_typeMany : Int32} {z_text : Nat → Int32} {z_signs : Int32} {z_at : Int32} {z_lacks : Int32} {z_clauses : Int32} {z_begun : Int32} {z_letters : Nat → Int32} {z_firsts : Nat → Int32} {z_seconds : Nat → Int32} {z_aside : Nat → Int32} {z_sorts : Nat → Int32} {z_sizes : Nat → Int32} {z_items : Nat → Int64} {res : Int32} (hf : f_X10_isKnown l1 z_s z_moves z_hands = some res) : MX l yX10_isKnown cX10_isKnown 3 (some .boolean) rm_X10_isKnown G (mw G h z_thrown z_s z_kept z_isKept z_moveMany z_moves z_hands z_troubles z_troubleSorts z_troubleNumbers z_asked z_paint z_leasts z_isSeen z_classMany z_types z_typeCounts z_typeMany z_text z_signs z_at z_lacks z_clauses z_begun z_letters z_firsts z_seconds z_aside z_sorts z_sizes z_items) [.ref (h 0), .int l1] (mw G h z_thrown z_s z_kept z_isKept z_moveMany z_moves z_hands z_troubles z_troubleSorts z_troubleNumbers z_asked z_paint z_leasts z_isSeen z_classMany z_types z_typeCounts z_typeMany z_text z_signs z_at z_lacks z_clauses z_begun z_letters z_firsts z_seconds z_aside z_sorts z_sizes z_items) (some (.int res)) 0 0 := by
  refine MX.of (plainFor_of_name (by decide)) (Nat.le_of_ble_eq_true rfl) ?_
  intro p e s m below meth c A X E hI ls hl
  obtain ⟨hx, hb, hml, hown, hts, hr, hlk⟩ := id X
  have hl : lv_has ls 3 [(0, .ref (h 0)), (1, .int l1)] := hl
  unfold f_X10_isKnown at hf
  refine lv_iconst (pc := 0) (v := 0) hx hb dX10_isKnown_0 (by decide) ?_
  refine lv_istore_n (pc := 1) (lv' := [(2, .int 0), (0, .ref (h 0)), (1, .int l1)]) hx hb dX10_isKnown_1 rfl hl (by decide) rfl (fun ls hl => ?_)
  refine k_X10_isKnown_L2 X E (fun l2_1 H locs ls hI hl hf => ?_) hI (lv_sub hl [1, 2, 0] rfl) hf
  refine lv_iconst (pc := 24) (v := 0) hx hb dX10_isKnown_24 (by decide) ?_
  obtain rfl := Option.some.inj hf
  exact x_zret X hI (Or.inl rfl) dX10_isKnown_25

abbrev rm_X10_goesBehind : Room := { frames := 1, cells := 0, slots := 0, locals := 22 }
set_option maxHeartbeats 4000000 in
set_option maxRecDepth 100000 in
theorem k_X10_goesBehind_L2 {p : Program} {l : Launch} {e : Env} {s : State} {m : MethodId} {args : Array Value} {below : List Frame} {meth : Method} {c : Code} {A : Nat → Prop} {G : GX} {h : Nat → Nat} {l1 : Int32} {l2 : Int32} {z_thrown : Int32} {z_s : Nat → Int32} {z_kept : Nat → Int32} {z_isKept : Int32} {z_moveMany : Int32} {z_hands : Nat → Int32} {z_troubles : Int32} {z_troubleSorts : Nat → Int32} {z_troubleNumbers : Nat → Int32} {z_asked : Nat → Int32} {z_paint : Nat → Int32} {z_leasts : Nat → Int32} {z_isSeen : Nat → Int32} {z_classMany : Int32} {z_types : Nat → Int32} {z_typeCounts : Nat → Int32} {z_typeMany : Int32} {z_text : Nat → Int32} {z_signs : Int32} {z_at : Int32} {z_lacks : Int32} {z_clauses : Int32} {z_begun : Int32} {z_letters : Nat → Int32} {z_firsts : Nat → Int32} {z_seconds : Nat → Int32} {z_aside : Nat → Int32} {z_sorts : Nat → Int32} {z_sizes : Nat → Int32} {z_items : Nat → Int64} {K : Int32 → (Nat → Int32) → Option ((Nat → Int32) × (Nat → Int32))} {res : (Nat → Int32) × (Nat → Int32)} (X : CX RX10 cX10_goesBehind 4 none p s m args meth c) (E : EX G A s)
    (hK : ∀ (l3 : Int32) (z_moves : (Nat → Int32)) (H : Heap) (locs : List Loc) (ls : Array Slot), IN A G (mw G h z_thrown z_s z_kept z_isKept z_moveMany z_moves z_hands z_troubles z_troubleSorts z_troubleNumbers z_asked z_paint z_leasts z_isSeen z_classMany z_types z_typeCounts z_typeMany z_text z_signs z_at z_lacks z_clauses z_begun z_letters z_firsts z_seconds z_aside z_sorts z_sizes z_items) s H locs → lv_has ls 4 [(0, .ref (h 0)), (1, .int l1), (2, .int l2), (3, .int l3)] → K l3 z_moves = some res → W p l e rm_X10_goesBehind s m args below meth c H locs 0 0 (MQ below (QX G A (mw G h z_thrown z_s z_kept z_isKept z_moveMany res.1 res.2 z_troubles z_troubleSorts z_troubleNumbers z_asked z_paint z_leasts z_isSeen z_classMany z_types z_typeCounts z_typeMany z_text z_signs z_at z_lacks z_clauses z_begun z_letters z_firsts z_seconds z_aside z_sorts z_sizes z_items) none) args s 0 0 A) (F0 m 51 ls [])) :
    ∀ {k : Nat} {l3 : Int32} {z_moves : (Nat → Int32)} {H : Heap} {locs : List Loc} {ls : Array Slot}, IN A G (mw G h z_thrown z_s z_kept z_isKept z_moveMany z_moves z_hands z_troubles z_troubleSorts z_troubleNumbers z_asked z_paint z_leasts z_isSeen z_classMany z_types z_typeCounts z_typeMany z_text z_signs z_at z_lacks z_clauses z_begun z_letters z_firsts z_seconds z_aside z_sorts z_sizes z_items) s H locs → lv_has ls 4 [(0, .ref (h 0)), (1, .int l1), (2, .int l2), (3, .int l3)] → f_X10_goesBehind_L2 l1 l2 z_s z_moveMany K k l3 z_moves = some res → W p l e rm_X10_goesBehind s m args below meth c H locs 0 0 (MQ below (QX G A (mw G h z_thrown z_s z_kept z_isKept z_moveMany res.1 res.2 z_troubles z_troubleSorts z_troubleNumbers z_asked z_paint z_leasts z_isSeen z_classMany z_types z_typeCounts z_typeMany z_text z_signs z_at z_lacks z_clauses z_begun z_letters z_firsts z_seconds z_aside z_sorts z_sizes z_items) none) args s 0 0 A) (F0 m 2 ls []) := by
  obtain ⟨hx, hb, hml, hown, hts, hr, hlk⟩ := id X
  intro k
  induction k with
  | zero => intro l3 z_moves H locs ls hI hl hf; exact nomatch (show none = some res from hf)
  | succ k ih =>
    intro l3 z_moves H locs ls hI hl hf
    rw [f_X10_goesBehind_L2] at hf
    refine lv_iload_n (pc := 2) hx hb dX10_goesBehind_2 rfl (lv_at hl 3 rfl) ?_
    refine lv_aload_n (pc := 3) hx hb dX10_goesBehind_3 rfl (lv_at hl 0 rfl) ?_
    refine x_get (pc := 4) X E hI inX10 0 rfl rfl 1 (by decide) tw_3_230 rfl dX10_goesBehind_4 ?_
    refine lv_iconst (pc := 7) (v := 0) hx hb dX10_goesBehind_7 (by decide) ?_
    obtain ⟨t1, e1, hf⟩ := q_ob hf
    refine x_iald (pc := 8) X E hI 1 rfl e1 dX10_goesBehind_8 ?_
    refine lv_icmp_ge (pc := 9) (tgt := 51) hx hb dX10_goesBehind_9 (by decide) (fun c2 => ?_) (fun c2 => ?_)
    · have hf := q_ip c2 hf
      exact hK _ _ _ _ _ hI (lv_sub hl [0, 1, 2, 3] rfl) hf
    · have hf := q_in c2 hf
      refine lv_aload_n (pc := 12) hx hb dX10_goesBehind_12 rfl (lv_at hl 0 rfl) ?_
      refine x_get (pc := 13) X E hI inX10 0 rfl rfl 5 (by decide) tw_3_234 rfl dX10_goesBehind_13 ?_
      refine lv_bipush (pc := 16) (v := 6) hx hb dX10_goesBehind_16 (by decide) ?_
      refine lv_aload_n (pc := 18) hx hb dX10_goesBehind_18 rfl (lv_at hl 0 rfl) ?_
      refine x_get (pc := 19) X E hI inX10 0 rfl rfl 4 (by decide) tw_3_233 rfl dX10_goesBehind_19 ?_
      refine lv_imul (pc := 22) hx hb dX10_goesBehind_22 ?_
      refine lv_iload_n (pc := 23) hx hb dX10_goesBehind_23 rfl (lv_at hl 3 rfl) ?_
      refine lv_iadd (pc := 24) hx hb dX10_goesBehind_24 ?_
      refine lv_aload_n (pc := 25) hx hb dX10_goesBehind_25 rfl (lv_at hl 0 rfl) ?_
      refine lv_iload_n (pc := 26) hx hb dX10_goesBehind_26 rfl (lv_at hl 1 rfl) ?_
      refine lv_aload_n (pc := 27) hx hb dX10_goesBehind_27 rfl (lv_at hl 0 rfl) ?_
      refine x_get (pc := 28) X E hI inX10 0 rfl rfl 1 (by decide) tw_3_230 rfl dX10_goesBehind_28 ?_
      refine lv_bipush (pc := 31) (v := 9) hx hb dX10_goesBehind_31 (by decide) ?_
      refine lv_bipush (pc := 33) (v := 6) hx hb dX10_goesBehind_33 (by decide) ?_
      refine lv_iload_n (pc := 35) hx hb dX10_goesBehind_35 rfl (lv_at hl 2 rfl) ?_
      refine lv_imul (pc := 36) hx hb dX10_goesBehind_36 ?_
      refine lv_iadd (pc := 37) hx hb dX10_goesBehind_37 ?_
      refine lv_iload_n (pc := 38) hx hb dX10_goesBehind_38 rfl (lv_at hl 3 rfl) ?_
      refine lv_iadd (pc := 39) hx hb dX10_goesBehind_39 ?_
      obtain ⟨t3, e3, hf⟩ := q_ob hf
      refine x_iald (pc := 40) X E hI 1 rfl e3 dX10_goesBehind_40 ?_
      obtain ⟨t4, e4, hf⟩ := q_ob hf
      refine x_cVs (pc := 41) (st1 := [.int t4, .int ((6 * z_moveMany) + l3), .ref (h 3)]) (w1 := (mw G h z_thrown z_s z_kept z_isKept z_moveMany z_moves z_hands z_troubles z_troubleSorts z_troubleNumbers z_asked z_paint z_leasts z_isSeen z_classMany z_types z_typeCounts z_typeMany z_text z_signs z_at z_lacks z_clauses z_begun z_letters z_firsts z_seconds z_aside z_sorts z_sizes z_items)) X E hI (c_X10_digit l G h e4) kv_X10_95 hd_X10_digit ⟨rfl, rfl⟩ (by decide) 0 rfl rfl rfl rfl hl.1 rfl (Nat.le_of_ble_eq_true rfl) dX10_goesBehind_41 ⟨Nat.le_of_ble_eq_true rfl, Nat.le_of_ble_eq_true rfl⟩ rfl (fun H locs hI => ?_)
      obtain ⟨t5, e5, hf⟩ := q_ob hf
      refine x_iast (pc := 44) (w' := (mw G h z_thrown z_s z_kept z_isKept z_moveMany t5 z_hands z_troubles z_troubleSorts z_troubleNumbers z_asked z_paint z_leasts z_isSeen z_classMany z_types z_typeCounts z_typeMany z_text z_signs z_at z_lacks z_clauses z_begun z_letters z_firsts z_seconds z_aside z_sorts z_sizes z_items)) X E hI 3 rfl e5 rfl dX10_goesBehind_44 (fun H locs hI => ?_)
      refine lv_iinc (pc := 45) (v := l3 + 1) (lv' := [(3, .int (l3 + 1)), (0, .ref (h 0)), (1, .int l1), (2, .int l2)]) hx hb dX10_goesBehind_45 hl (k := 3) rfl rfl (by decide) rfl (fun ls hl => ?_)
      refine lv_goto (pc := 48) (tgt := 2) hx hb dX10_goesBehind_48 (by decide) ?_
      exact ih hI (lv_sub hl [1, 2, 3, 0] rfl) hf

set_option maxHeartbeats 4000000 in
set_option maxRecDepth 100000 in
theorem c_X10_goesBehind (l : Launch) (G : GX) (h : Nat → Nat) {l1 : Int32} {l2 : Int32} {z_s : Nat → Int32} {z_moveMany : Int32} {z_moves : Nat → Int32} {z_hands : Nat → Int32} {z_thrown : Int32} {z_kept : Nat → Int32} {z_isKept : Int32} {z_troubles : Int32} {z_troubleSorts : Nat → Int32} {z_troubleNumbers : Nat → Int32} {z_asked : Nat → Int32} {z_paint : Nat → Int32} {z_leasts : Nat → Int32} {z_isSeen : Nat → Int32} {z_classMany : Int32} {z_types : Nat → Int32} {z_typeCounts : Nat → Int32} {z_typeMany : Int32} {z_text : Nat → Int32} {z_signs : Int32} {z_at : Int32} {z_lacks : Int32} {z_clauses : Int32} {z_begun : Int32} {z_letters : Nat → Int32} {z_firsts : Nat → Int32} {z_seconds : Nat → Int32} {z_aside : Nat → Int32} {z_sorts : Nat → Int32} {z_sizes : Nat → Int32} {z_items : Nat → Int64} {res : (Nat → Int32) × (Nat → Int32)} (hf : f_X10_goesBehind l1 l2 z_s z_moveMany z_moves z_hands = some res) : MX l yX10_goesBehind cX10_goesBehind 4 none rm_X10_goesBehind G (mw G h z_thrown z_s z_kept z_isKept z_moveMany z_moves z_hands z_troubles z_troubleSorts z_troubleNumbers z_asked z_paint z_leasts z_isSeen z_classMany z_types z_typeCounts z_typeMany z_text z_signs z_at z_lacks z_clauses z_begun z_letters z_firsts z_seconds z_aside z_sorts z_sizes z_items) [.ref (h 0), .int l1, .int l2] (mw G h z_thrown z_s z_kept z_isKept z_moveMany res.1 res.2 z_troubles z_troubleSorts z_troubleNumbers z_asked z_paint z_leasts z_isSeen z_classMany z_types z_typeCounts z_typeMany z_text z_signs z_at z_lacks z_clauses z_begun z_letters z_firsts z_seconds z_aside z_sorts z_sizes z_items) none 0 0 := by
  refine MX.of (plainFor_of_name (by decide)) (Nat.le_of_ble_eq_true rfl) ?_
  intro p e s m below meth c A X E hI ls hl
  obtain ⟨hx, hb, hml, hown, hts, hr, hlk⟩ := id X
  have hl : lv_has ls 4 [(0, .ref (h 0)), (1, .int l1), (2, .int l2)] := hl
  unfold f_X10_goesBehind at hf
  refine lv_iconst (pc := 0) (v := 0) hx hb dX10_goesBehind_0 (by decide) ?_
  refine lv_istore_n (pc := 1) (lv' := [(3, .int 0), (0, .ref (h 0)), (1, .int l1), (2, .int l2)]) hx hb dX10_goesBehind_1 rfl hl (by decide) rfl (fun ls hl => ?_)
  refine k_X10_goesBehind_L2 X E (fun l3_1 z_moves_1 H locs ls hI hl hf => ?_) hI (lv_sub hl [1, 2, 3, 0] rfl) hf
  refine lv_aload_n (pc := 51) hx hb dX10_goesBehind_51 rfl (lv_at hl 0 rfl) ?_
  refine x_get (pc := 52) X E hI inX10 0 rfl rfl 6 (by decide) tw_3_235 rfl dX10_goesBehind_52 ?_
  refine lv_aload_n (pc := 55) hx hb dX10_goesBehind_55 rfl (lv_at hl 0 rfl) ?_
  refine x_get (pc := 56) X E hI inX10 0 rfl rfl 4 (by decide) tw_3_233 rfl dX10_goesBehind_56 ?_
  refine lv_aload_n (pc := 59) hx hb dX10_goesBehind_59 rfl (lv_at hl 0 rfl) ?_
  refine x_get (pc := 60) X E hI inX10 0 rfl rfl 6 (by decide) tw_3_235 rfl dX10_goesBehind_60 ?_
  refine lv_iload_n (pc := 63) hx hb dX10_goesBehind_63 rfl (lv_at hl 1 rfl) ?_
  obtain ⟨t2, e2, hf⟩ := q_ob hf
  refine x_iald (pc := 64) X E hI 4 rfl e2 dX10_goesBehind_64 ?_
  refine lv_aload_n (pc := 65) hx hb dX10_goesBehind_65 rfl (lv_at hl 0 rfl) ?_
  refine x_get (pc := 66) X E hI inX10 0 rfl rfl 1 (by decide) tw_3_230 rfl dX10_goesBehind_66 ?_
  refine lv_bipush (pc := 69) (v := 33) hx hb dX10_goesBehind_69 (by decide) ?_
  refine lv_iload_n (pc := 71) hx hb dX10_goesBehind_71 rfl (lv_at hl 2 rfl) ?_
  refine lv_iadd (pc := 72) hx hb dX10_goesBehind_72 ?_
  obtain ⟨t3, e3, hf⟩ := q_ob hf
  refine x_iald (pc := 73) X E hI 1 rfl e3 dX10_goesBehind_73 ?_
  refine lv_ixor (pc := 74) hx hb dX10_goesBehind_74 ?_
  obtain ⟨t4, e4, hf⟩ := q_ob hf
  refine x_iast (pc := 75) (w' := (mw G h z_thrown z_s z_kept z_isKept z_moveMany z_moves_1 t4 z_troubles z_troubleSorts z_troubleNumbers z_asked z_paint z_leasts z_isSeen z_classMany z_types z_typeCounts z_typeMany z_text z_signs z_at z_lacks z_clauses z_begun z_letters z_firsts z_seconds z_aside z_sorts z_sizes z_items)) X E hI 4 rfl e4 rfl dX10_goesBehind_75 (fun H locs hI => ?_)
  obtain rfl := Option.some.inj hf
  exact x_vret X hI dX10_goesBehind_76

abbrev rm_X10_changePlaces : Room := { frames := 0, cells := 0, slots := 0, locals := 0 }
set_option maxHeartbeats 4000000 in
set_option maxRecDepth 100000 in
theorem k_X10_changePlaces_L2 {p : Program} {l : Launch} {e : Env} {s : State} {m : MethodId} {args : Array Value} {below : List Frame} {meth : Method} {c : Code} {A : Nat → Prop} {G : GX} {h : Nat → Nat} {l1 : Int32} {l2 : Int32} {z_thrown : Int32} {z_s : Nat → Int32} {z_kept : Nat → Int32} {z_isKept : Int32} {z_moveMany : Int32} {z_hands : Nat → Int32} {z_troubles : Int32} {z_troubleSorts : Nat → Int32} {z_troubleNumbers : Nat → Int32} {z_asked : Nat → Int32} {z_paint : Nat → Int32} {z_leasts : Nat → Int32} {z_isSeen : Nat → Int32} {z_classMany : Int32} {z_types : Nat → Int32} {z_typeCounts : Nat → Int32} {z_typeMany : Int32} {z_text : Nat → Int32} {z_signs : Int32} {z_at : Int32} {z_lacks : Int32} {z_clauses : Int32} {z_begun : Int32} {z_letters : Nat → Int32} {z_firsts : Nat → Int32} {z_seconds : Nat → Int32} {z_aside : Nat → Int32} {z_sorts : Nat → Int32} {z_sizes : Nat → Int32} {z_items : Nat → Int64} {K : Int32 → (Nat → Int32) → Option ((Nat → Int32) × (Nat → Int32))} {res : (Nat → Int32) × (Nat → Int32)} (X : CX RX10 cX10_changePlaces 5 none p s m args meth c) (E : EX G A s)
    (hK : ∀ (l3 : Int32) (z_moves : (Nat → Int32)) (H : Heap) (locs : List Loc) (ls : Array Slot), IN A G (mw G h z_thrown z_s z_kept z_isKept z_moveMany z_moves z_hands z_troubles z_troubleSorts z_troubleNumbers z_asked z_paint z_leasts z_isSeen z_classMany z_types z_typeCounts z_typeMany z_text z_signs z_at z_lacks z_clauses z_begun z_letters z_firsts z_seconds z_aside z_sorts z_sizes z_items) s H locs → lv_has ls 5 [(0, .ref (h 0)), (1, .int l1), (2, .int l2), (3, .int l3)] → K l3 z_moves = some res → W p l e rm_X10_changePlaces s m args below meth c H locs 0 0 (MQ below (QX G A (mw G h z_thrown z_s z_kept z_isKept z_moveMany res.1 res.2 z_troubles z_troubleSorts z_troubleNumbers z_asked z_paint z_leasts z_isSeen z_classMany z_types z_typeCounts z_typeMany z_text z_signs z_at z_lacks z_clauses z_begun z_letters z_firsts z_seconds z_aside z_sorts z_sizes z_items) none) args s 0 0 A) (F0 m 62 ls [])) :
    ∀ {k : Nat} {l3 : Int32} {z_moves : (Nat → Int32)} {H : Heap} {locs : List Loc} {ls : Array Slot}, IN A G (mw G h z_thrown z_s z_kept z_isKept z_moveMany z_moves z_hands z_troubles z_troubleSorts z_troubleNumbers z_asked z_paint z_leasts z_isSeen z_classMany z_types z_typeCounts z_typeMany z_text z_signs z_at z_lacks z_clauses z_begun z_letters z_firsts z_seconds z_aside z_sorts z_sizes z_items) s H locs → lv_has ls 5 [(0, .ref (h 0)), (1, .int l1), (2, .int l2), (3, .int l3)] → f_X10_changePlaces_L2 l1 l2 K k l3 z_moves = some res → W p l e rm_X10_changePlaces s m args below meth c H locs 0 0 (MQ below (QX G A (mw G h z_thrown z_s z_kept z_isKept z_moveMany res.1 res.2 z_troubles z_troubleSorts z_troubleNumbers z_asked z_paint z_leasts z_isSeen z_classMany z_types z_typeCounts z_typeMany z_text z_signs z_at z_lacks z_clauses z_begun z_letters z_firsts z_seconds z_aside z_sorts z_sizes z_items) none) args s 0 0 A) (F0 m 2 ls []) := by
  obtain ⟨hx, hb, hml, hown, hts, hr, hlk⟩ := id X
  intro k
  induction k with
  | zero => intro l3 z_moves H locs ls hI hl hf; exact nomatch (show none = some res from hf)
  | succ k ih =>
    intro l3 z_moves H locs ls hI hl hf
    rw [f_X10_changePlaces_L2] at hf
    refine lv_iload_n (pc := 2) hx hb dX10_changePlaces_2 rfl (lv_at hl 3 rfl) ?_
    refine lv_bipush (pc := 3) (v := 6) hx hb dX10_changePlaces_3 (by decide) ?_
    refine lv_icmp_ge (pc := 5) (tgt := 62) hx hb dX10_changePlaces_5 (by decide) (fun c1 => ?_) (fun c1 => ?_)
    · have hf := q_ip c1 hf
      exact hK _ _ _ _ _ hI (lv_sub hl [0, 1, 2, 3] rfl) hf
    · have hf := q_in c1 hf
      refine lv_aload_n (pc := 8) hx hb dX10_changePlaces_8 rfl (lv_at hl 0 rfl) ?_
      refine x_get (pc := 9) X E hI inX10 0 rfl rfl 5 (by decide) tw_3_234 rfl dX10_changePlaces_9 ?_
      refine lv_bipush (pc := 12) (v := 6) hx hb dX10_changePlaces_12 (by decide) ?_
      refine lv_iload_n (pc := 14) hx hb dX10_changePlaces_14 rfl (lv_at hl 1 rfl) ?_
      refine lv_imul (pc := 15) hx hb dX10_changePlaces_15 ?_
      refine lv_iload_n (pc := 16) hx hb dX10_changePlaces_16 rfl (lv_at hl 3 rfl) ?_
      refine lv_iadd (pc := 17) hx hb dX10_changePlaces_17 ?_
      obtain ⟨t2, e2, hf⟩ := q_ob hf
      refine x_iald (pc := 18) X E hI 3 rfl e2 dX10_changePlaces_18 ?_
      refine lv_istore (pc := 19) (lv' := [(4, .int t2), (0, .ref (h 0)), (1, .int l1), (2, .int l2), (3, .int l3)]) hx hb dX10_changePlaces_19 hl (by decide) rfl (fun ls hl => ?_)
      refine lv_aload_n (pc := 21) hx hb dX10_changePlaces_21 rfl (lv_at hl 1 rfl) ?_
      refine x_get (pc := 22) X E hI inX10 0 rfl rfl 5 (by decide) tw_3_234 rfl dX10_changePlaces_22 ?_
      refine lv_bipush (pc := 25) (v := 6) hx hb dX10_changePlaces_25 (by decide) ?_
      refine lv_iload_n (pc := 27) hx hb dX10_changePlaces_27 rfl (lv_at hl 2 rfl) ?_
      refine lv_imul (pc := 28) hx hb dX10_changePlaces_28 ?_
      refine lv_iload_n (pc := 29) hx hb dX10_changePlaces_29 rfl (lv_at hl 4 rfl) ?_
      refine lv_iadd (pc := 30) hx hb dX10_changePlaces_30 ?_
      refine lv_aload_n (pc := 31) hx hb dX10_changePlaces_31 rfl (lv_at hl 1 rfl) ?_
      refine x_get (pc := 32) X E hI inX10 0 rfl rfl 5 (by decide) tw_3_234 rfl dX10_changePlaces_32 ?_
      refine lv_bipush (pc := 35) (v := 6) hx hb dX10_changePlaces_35 (by decide) ?_
      refine lv_iload_n (pc := 37) hx hb dX10_changePlaces_37 rfl (lv_at hl 3 rfl) ?_
      refine lv_imul (pc := 38) hx hb dX10_changePlaces_38 ?_
      refine lv_iload_n (pc := 39) hx hb dX10_changePlaces_39 rfl (lv_at hl 4 rfl) ?_
      refine lv_iadd (pc := 40) hx hb dX10_changePlaces_40 ?_
      obtain ⟨t3, e3, hf⟩ := q_ob hf
      refine x_iald (pc := 41) X E hI 3 rfl e3 dX10_changePlaces_41 ?_
      obtain ⟨t4, e4, hf⟩ := q_ob hf
      refine x_iast (pc := 42) (w' := (mw G h z_thrown z_s z_kept z_isKept z_moveMany t4 z_hands z_troubles z_troubleSorts z_troubleNumbers z_asked z_paint z_leasts z_isSeen z_classMany z_types z_typeCounts z_typeMany z_text z_signs z_at z_lacks z_clauses z_begun z_letters z_firsts z_seconds z_aside z_sorts z_sizes z_items)) X E hI 3 rfl e4 rfl dX10_changePlaces_42 (fun H locs hI => ?_)
      refine lv_aload_n (pc := 43) hx hb dX10_changePlaces_43 rfl (lv_at hl 1 rfl) ?_
      refine x_get (pc := 44) X E hI inX10 0 rfl rfl 5 (by decide) tw_3_234 rfl dX10_changePlaces_44 ?_
      refine lv_bipush (pc := 47) (v := 6) hx hb dX10_changePlaces_47 (by decide) ?_
      refine lv_iload_n (pc := 49) hx hb dX10_changePlaces_49 rfl (lv_at hl 3 rfl) ?_
      refine lv_imul (pc := 50) hx hb dX10_changePlaces_50 ?_
      refine lv_iload_n (pc := 51) hx hb dX10_changePlaces_51 rfl (lv_at hl 4 rfl) ?_
      refine lv_iadd (pc := 52) hx hb dX10_changePlaces_52 ?_
      refine lv_iload (pc := 53) hx hb dX10_changePlaces_53 (lv_at hl 0 rfl) ?_
      obtain ⟨t5, e5, hf⟩ := q_ob hf
      refine x_iast (pc := 55) (w' := (mw G h z_thrown z_s z_kept z_isKept z_moveMany t5 z_hands z_troubles z_troubleSorts z_troubleNumbers z_asked z_paint z_leasts z_isSeen z_classMany z_types z_typeCounts z_typeMany z_text z_signs z_at z_lacks z_clauses z_begun z_letters z_firsts z_seconds z_aside z_sorts z_sizes z_items)) X E hI 3 rfl e5 rfl dX10_changePlaces_55 (fun H locs hI => ?_)
      refine lv_iinc (pc := 56) (v := l3 + 1) (lv' := [(3, .int (l3 + 1)), (4, .int t2), (0, .ref (h 0)), (1, .int l1), (2, .int l2)]) hx hb dX10_changePlaces_56 hl (k := 4) rfl rfl (by decide) rfl (fun ls hl => ?_)
      refine lv_goto (pc := 59) (tgt := 2) hx hb dX10_changePlaces_59 (by decide) ?_
      exact ih hI (lv_sub hl [2, 3, 4, 0] rfl) hf

set_option maxHeartbeats 4000000 in
set_option maxRecDepth 100000 in
theorem c_X10_changePlaces (l : Launch) (G : GX) (h : Nat → Nat) {l1 : Int32} {l2 : Int32} {z_moves : Nat → Int32} {z_hands : Nat → Int32} {z_thrown : Int32} {z_s : Nat → Int32} {z_kept : Nat → Int32} {z_isKept : Int32} {z_moveMany : Int32} {z_troubles : Int32} {z_troubleSorts : Nat → Int32} {z_troubleNumbers : Nat → Int32} {z_asked : Nat → Int32} {z_paint : Nat → Int32} {z_leasts : Nat → Int32} {z_isSeen : Nat → Int32} {z_classMany : Int32} {z_types : Nat → Int32} {z_typeCounts : Nat → Int32} {z_typeMany : Int32} {z_text : Nat → Int32} {z_signs : Int32} {z_at : Int32} {z_lacks : Int32} {z_clauses : Int32} {z_begun : Int32} {z_letters : Nat → Int32} {z_firsts : Nat → Int32} {z_seconds : Nat → Int32} {z_aside : Nat → Int32} {z_sorts : Nat → Int32} {z_sizes : Nat → Int32} {z_items : Nat → Int64} {res : (Nat → Int32) × (Nat → Int32)} (hf : f_X10_changePlaces l1 l2 z_moves z_hands = some res) : MX l yX10_changePlaces cX10_changePlaces 5 none rm_X10_changePlaces G (mw G h z_thrown z_s z_kept z_isKept z_moveMany z_moves z_hands z_troubles z_troubleSorts z_troubleNumbers z_asked z_paint z_leasts z_isSeen z_classMany z_types z_typeCounts z_typeMany z_text z_signs z_at z_lacks z_clauses z_begun z_letters z_firsts z_seconds z_aside z_sorts z_sizes z_items) [.ref (h 0), .int l1, .int l2] (mw G h z_thrown z_s z_kept z_isKept z_moveMany res.1 res.2 z_troubles z_troubleSorts z_troubleNumbers z_asked z_paint z_leasts z_isSeen z_classMany z_types z_typeCounts z_typeMany z_text z_signs z_at z_lacks z_clauses z_begun z_letters z_firsts z_seconds z_aside z_sorts z_sizes z_items) none 0 0 := by
  refine MX.of (plainFor_of_name (by decide)) (Nat.le_of_ble_eq_true rfl) ?_
  intro p e s m below meth c A X E hI ls hl
  obtain ⟨hx, hb, hml, hown, hts, hr, hlk⟩ := id X
  have hl : lv_has ls 5 [(0, .ref (h 0)), (1, .int l1), (2, .int l2)] := hl
  unfold f_X10_changePlaces at hf
  refine lv_iconst (pc := 0) (v := 0) hx hb dX10_changePlaces_0 (by decide) ?_
  refine lv_istore_n (pc := 1) (lv' := [(3, .int 0), (0, .ref (h 0)), (1, .int l1), (2, .int l2)]) hx hb dX10_changePlaces_1 rfl hl (by decide) rfl (fun ls hl => ?_)
  refine k_X10_changePlaces_L2 X E (fun l3_1 z_moves_1 H locs ls hI hl hf => ?_) hI (lv_sub hl [1, 2, 3, 0] rfl) hf
  refine lv_aload_n (pc := 62) hx hb dX10_changePlaces_62 rfl (lv_at hl 0 rfl) ?_
  refine x_get (pc := 63) X E hI inX10 0 rfl rfl 6 (by decide) tw_3_235 rfl dX10_changePlaces_63 ?_
  refine lv_iload_n (pc := 66) hx hb dX10_changePlaces_66 rfl (lv_at hl 1 rfl) ?_
  obtain ⟨t2, e2, hf⟩ := q_ob hf
  refine x_iald (pc := 67) X E hI 4 rfl e2 dX10_changePlaces_67 ?_
  refine lv_istore_n (pc := 68) (lv' := [(3, .int t2), (0, .ref (h 0)), (1, .int l1), (2, .int l2)]) hx hb dX10_changePlaces_68 rfl hl (by decide) rfl (fun ls hl => ?_)
  refine lv_aload_n (pc := 69) hx hb dX10_changePlaces_69 rfl (lv_at hl 1 rfl) ?_
  refine x_get (pc := 70) X E hI inX10 0 rfl rfl 6 (by decide) tw_3_235 rfl dX10_changePlaces_70 ?_
  refine lv_iload_n (pc := 73) hx hb dX10_changePlaces_73 rfl (lv_at hl 2 rfl) ?_
  refine lv_aload_n (pc := 74) hx hb dX10_changePlaces_74 rfl (lv_at hl 1 rfl) ?_
  refine x_get (pc := 75) X E hI inX10 0 rfl rfl 6 (by decide) tw_3_235 rfl dX10_changePlaces_75 ?_
  refine lv_iload_n (pc := 78) hx hb dX10_changePlaces_78 rfl (lv_at hl 3 rfl) ?_
  obtain ⟨t3, e3, hf⟩ := q_ob hf
  refine x_iald (pc := 79) X E hI 4 rfl e3 dX10_changePlaces_79 ?_
  obtain ⟨t4, e4, hf⟩ := q_ob hf
  refine x_iast (pc := 80) (w' := (mw G h z_thrown z_s z_kept z_isKept z_moveMany z_moves_1 t4 z_troubles z_troubleSorts z_troubleNumbers z_asked z_paint z_leasts z_isSeen z_classMany z_types z_typeCounts z_typeMany z_text z_signs z_at z_lacks z_clauses z_begun z_letters z_firsts z_seconds z_aside z_sorts z_sizes z_items)) X E hI 4 rfl e4 rfl dX10_changePlaces_80 (fun H locs hI => ?_)
  refine lv_aload_n (pc := 81) hx hb dX10_changePlaces_81 rfl (lv_at hl 1 rfl) ?_
  refine x_get (pc := 82) X E hI inX10 0 rfl rfl 6 (by decide) tw_3_235 rfl dX10_changePlaces_82 ?_
  refine lv_iload_n (pc := 85) hx hb dX10_changePlaces_85 rfl (lv_at hl 3 rfl) ?_
  refine lv_iload_n (pc := 86) hx hb dX10_changePlaces_86 rfl (lv_at hl 0 rfl) ?_
  obtain ⟨t5, e5, hf⟩ := q_ob hf
  refine x_iast (pc := 87) (w' := (mw G h z_thrown z_s z_kept z_isKept z_moveMany z_moves_1 t5 z_troubles z_troubleSorts z_troubleNumbers z_asked z_paint z_leasts z_isSeen z_classMany z_types z_typeCounts z_typeMany z_text z_signs z_at z_lacks z_clauses z_begun z_letters z_firsts z_seconds z_aside z_sorts z_sizes z_items)) X E hI 4 rfl e5 rfl dX10_changePlaces_87 (fun H locs hI => ?_)
  obtain rfl := Option.some.inj hf
  exact x_vret X hI dX10_changePlaces_88

abbrev rm_X10_sorts : Room := { frames := 2, cells := 0, slots := 0, locals := 45 }
set_option maxHeartbeats 4000000 in
set_option maxRecDepth 100000 in
theorem k_X10_sorts_L16 {p : Program} {l : Launch} {e : Env} {s : State} {m : MethodId} {args : Array Value} {below : List Frame} {meth : Method} {c : Code} {A : Nat → Prop} {G : GX} {h : Nat → Nat} {l1 : Int32} {z_thrown : Int32} {z_s : Nat → Int32} {z_kept : Nat → Int32} {z_isKept : Int32} {z_moveMany : Int32} {z_moves : Nat → Int32} {z_hands : Nat → Int32} {z_troubles : Int32} {z_troubleSorts : Nat → Int32} {z_troubleNumbers : Nat → Int32} {z_asked : Nat → Int32} {z_paint : Nat → Int32} {z_leasts : Nat → Int32} {z_isSeen : Nat → Int32} {z_classMany : Int32} {z_types : Nat → Int32} {z_typeCounts : Nat → Int32} {z_typeMany : Int32} {z_text : Nat → Int32} {z_signs : Int32} {z_at : Int32} {z_lacks : Int32} {z_clauses : Int32} {z_begun : Int32} {z_letters : Nat → Int32} {z_firsts : Nat → Int32} {z_seconds : Nat → Int32} {z_aside : Nat → Int32} {z_sorts : Nat → Int32} {z_sizes : Nat → Int32} {z_items : Nat → Int64} {K : Int32 → Int32 → Option ((Nat → Int32) × (Nat → Int32))} {res : (Nat → Int32) × (Nat → Int32)} (X : CX RX10 cX10_sorts 5 none p s m args meth c) (E : EX G A s)
    (hK : ∀ (l2 : Int32) (l3 : Int32) (H : Heap) (locs : List Loc) (ls : Array Slot), IN A G (mw G h z_thrown z_s z_kept z_isKept z_moveMany z_moves z_hands z_troubles z_troubleSorts z_troubleNumbers z_asked z_paint z_leasts z_isSeen z_classMany z_types z_typeCounts z_typeMany z_text z_signs z_at z_lacks z_clauses z_begun z_letters z_firsts z_seconds z_aside z_sorts z_sizes z_items) s H locs → lv_has ls 5 [(0, .ref (h 0)), (1, .int l1), (2, .int l2), (3, .int l3)] → K l2 l3 = some res → W p l e rm_X10_sorts s m args below meth c H locs 0 0 (MQ below (QX G A (mw G h z_thrown z_s z_kept z_isKept z_moveMany res.1 res.2 z_troubles z_troubleSorts z_troubleNumbers z_asked z_paint z_leasts z_isSeen z_classMany z_types z_typeCounts z_typeMany z_text z_signs z_at z_lacks z_clauses z_begun z_letters z_firsts z_seconds z_aside z_sorts z_sizes z_items) none) args s 0 0 A) (F0 m 70 ls [])) :
    ∀ {k : Nat} {l2 : Int32} {l3 : Int32} {H : Heap} {locs : List Loc} {ls : Array Slot}, IN A G (mw G h z_thrown z_s z_kept z_isKept z_moveMany z_moves z_hands z_troubles z_troubleSorts z_troubleNumbers z_asked z_paint z_leasts z_isSeen z_classMany z_types z_typeCounts z_typeMany z_text z_signs z_at z_lacks z_clauses z_begun z_letters z_firsts z_seconds z_aside z_sorts z_sizes z_items) s H locs → lv_has ls 5 [(0, .ref (h 0)), (1, .int l1), (2, .int l2), (3, .int l3)] → f_X10_sorts_L16 l1 z_s z_moveMany z_moves z_hands K k l2 l3 = some res → W p l e rm_X10_sorts s m args below meth c H locs 0 0 (MQ below (QX G A (mw G h z_thrown z_s z_kept z_isKept z_moveMany res.1 res.2 z_troubles z_troubleSorts z_troubleNumbers z_asked z_paint z_leasts z_isSeen z_classMany z_types z_typeCounts z_typeMany z_text z_signs z_at z_lacks z_clauses z_begun z_letters z_firsts z_seconds z_aside z_sorts z_sizes z_items) none) args s 0 0 A) (F0 m 16 ls []) := by
  obtain ⟨hx, hb, hml, hown, hts, hr, hlk⟩ := id X
  intro k
  induction k with
  | zero => intro l2 l3 H locs ls hI hl hf; exact nomatch (show none = some res from hf)
  | succ k ih =>
    intro l2 l3 H locs ls hI hl hf
    rw [f_X10_sorts_L16] at hf
    refine lv_iload_n (pc := 16) hx hb dX10_sorts_16 rfl (lv_at hl 3 rfl) ?_
    refine lv_aload_n (pc := 17) hx hb dX10_sorts_17 rfl (lv_at hl 0 rfl) ?_
    refine x_get (pc := 18) X E hI inX10 0 rfl rfl 4 (by decide) tw_3_233 rfl dX10_sorts_18 ?_
    refine lv_icmp_ge (pc := 21) (tgt := 70) hx hb dX10_sorts_21 (by decide) (fun c1 => ?_) (fun c1 => ?_)
    · have hf := q_ip c1 hf
      exact hK _ _ _ _ _ hI (lv_sub hl [0, 1, 2, 3] rfl) hf
    · have hf := q_in c1 hf
      refine lv_aload_n (pc := 24) hx hb dX10_sorts_24 rfl (lv_at hl 0 rfl) ?_
      refine lv_iload_n (pc := 25) hx hb dX10_sorts_25 rfl (lv_at hl 3 rfl) ?_
      obtain ⟨t2, e2, hf⟩ := q_ob hf
      refine x_cVs (pc := 26) (st1 := [.int t2]) (w1 := (mw G h z_thrown z_s z_kept z_isKept z_moveMany z_moves z_hands z_troubles z_troubleSorts z_troubleNumbers z_asked z_paint z_leasts z_isSeen z_classMany z_types z_typeCounts z_typeMany z_text z_signs z_at z_lacks z_clauses z_begun z_letters z_firsts z_seconds z_aside z_sorts z_sizes z_items)) X E hI (c_X10_numberOf l G h e2) kv_X10_99 hd_X10_numberOf ⟨rfl, rfl⟩ (by decide) 0 rfl rfl rfl rfl hl.1 rfl (Nat.le_of_ble_eq_true rfl) dX10_sorts_26 ⟨Nat.le_of_ble_eq_true rfl, Nat.le_of_ble_eq_true rfl⟩ rfl (fun H locs hI => ?_)
      refine lv_aload_n (pc := 29) hx hb dX10_sorts_29 rfl (lv_at hl 0 rfl) ?_
      refine lv_iload_n (pc := 30) hx hb dX10_sorts_30 rfl (lv_at hl 2 rfl) ?_
      obtain ⟨t3, e3, hf⟩ := q_ob hf
      refine x_cVs (pc := 31) (st1 := [.int t3, .int t2]) (w1 := (mw G h z_thrown z_s z_kept z_isKept z_moveMany z_moves z_hands z_troubles z_troubleSorts z_troubleNumbers z_asked z_paint z_leasts z_isSeen z_classMany z_types z_typeCounts z_typeMany z_text z_signs z_at z_lacks z_clauses z_begun z_letters z_firsts z_seconds z_aside z_sorts z_sizes z_items)) X E hI (c_X10_numberOf l G h e3) kv_X10_99 hd_X10_numberOf ⟨rfl, rfl⟩ (by decide) 0 rfl rfl rfl rfl hl.1 rfl (Nat.le_of_ble_eq_true rfl) dX10_sorts_31 ⟨Nat.le_of_ble_eq_true rfl, Nat.le_of_ble_eq_true rfl⟩ rfl (fun H locs hI => ?_)
      refine lv_isub (pc := 34) hx hb dX10_sorts_34 ?_
      refine lv_istore (pc := 35) (lv' := [(4, .int (t2 - t3)), (0, .ref (h 0)), (1, .int l1), (2, .int l2), (3, .int l3)]) hx hb dX10_sorts_35 hl (by decide) rfl (fun ls hl => ?_)
      refine lv_iload (pc := 37) hx hb dX10_sorts_37 (lv_at hl 0 rfl) ?_
      refine lv_if_lt (pc := 39) (tgt := 62) hx hb dX10_sorts_39 (by decide) (fun c4 => ?_) (fun c4 => ?_)
      · have hf := q_ip c4 hf
        refine lv_iload_n (pc := 62) hx hb dX10_sorts_62 rfl (lv_at hl 4 rfl) ?_
        refine lv_istore_n (pc := 63) (lv' := [(2, .int l3), (4, .int (t2 - t3)), (0, .ref (h 0)), (1, .int l1), (3, .int l3)]) hx hb dX10_sorts_63 rfl hl (by decide) rfl (fun ls hl => ?_)
        refine lv_iinc (pc := 64) (v := l3 + 1) (lv' := [(3, .int (l3 + 1)), (2, .int l3), (4, .int (t2 - t3)), (0, .ref (h 0)), (1, .int l1)]) hx hb dX10_sorts_64 hl (k := 4) rfl rfl (by decide) rfl (fun ls hl => ?_)
        refine lv_goto (pc := 67) (tgt := 16) hx hb dX10_sorts_67 (by decide) ?_
        exact ih hI (lv_sub hl [3, 4, 1, 0] rfl) hf
      · have hf := q_in c4 hf
        refine lv_iload (pc := 42) hx hb dX10_sorts_42 (lv_at hl 0 rfl) ?_
        refine lv_if_ne (pc := 44) (tgt := 64) hx hb dX10_sorts_44 (by decide) (fun c5 => ?_) (fun c5 => ?_)
        · have hf := q_in c5 hf
          refine lv_iinc (pc := 64) (v := l3 + 1) (lv' := [(3, .int (l3 + 1)), (4, .int (t2 - t3)), (0, .ref (h 0)), (1, .int l1), (2, .int l2)]) hx hb dX10_sorts_64 hl (k := 4) rfl rfl (by decide) rfl (fun ls hl => ?_)
          refine lv_goto (pc := 67) (tgt := 16) hx hb dX10_sorts_67 (by decide) ?_
          exact ih hI (lv_sub hl [2, 3, 4, 0] rfl) hf
        · have hf := q_ip c5 hf
          refine lv_aload_n (pc := 47) hx hb dX10_sorts_47 rfl (lv_at hl 1 rfl) ?_
          refine x_get (pc := 48) X E hI inX10 0 rfl rfl 6 (by decide) tw_3_235 rfl dX10_sorts_48 ?_
          refine lv_iload_n (pc := 51) hx hb dX10_sorts_51 rfl (lv_at hl 4 rfl) ?_
          obtain ⟨t6, e6, hf⟩ := q_ob hf
          refine x_iald (pc := 52) X E hI 4 rfl e6 dX10_sorts_52 ?_
          refine lv_aload_n (pc := 53) hx hb dX10_sorts_53 rfl (lv_at hl 1 rfl) ?_
          refine x_get (pc := 54) X E hI inX10 0 rfl rfl 6 (by decide) tw_3_235 rfl dX10_sorts_54 ?_
          refine lv_iload_n (pc := 57) hx hb dX10_sorts_57 rfl (lv_at hl 3 rfl) ?_
          obtain ⟨t7, e7, hf⟩ := q_ob hf
          refine x_iald (pc := 58) X E hI 4 rfl e7 dX10_sorts_58 ?_
          refine lv_icmp_ge (pc := 59) (tgt := 64) hx hb dX10_sorts_59 (by decide) (fun c8 => ?_) (fun c8 => ?_)
          · have hf := q_ip c8 hf
            refine lv_iinc (pc := 64) (v := l3 + 1) (lv' := [(3, .int (l3 + 1)), (4, .int (t2 - t3)), (0, .ref (h 0)), (1, .int l1), (2, .int l2)]) hx hb dX10_sorts_64 hl (k := 4) rfl rfl (by decide) rfl (fun ls hl => ?_)
            refine lv_goto (pc := 67) (tgt := 16) hx hb dX10_sorts_67 (by decide) ?_
            exact ih hI (lv_sub hl [2, 3, 4, 0] rfl) hf
          · have hf := q_in c8 hf
            refine lv_iload_n (pc := 62) hx hb dX10_sorts_62 rfl (lv_at hl 4 rfl) ?_
            refine lv_istore_n (pc := 63) (lv' := [(2, .int l3), (4, .int (t2 - t3)), (0, .ref (h 0)), (1, .int l1), (3, .int l3)]) hx hb dX10_sorts_63 rfl hl (by decide) rfl (fun ls hl => ?_)
            refine lv_iinc (pc := 64) (v := l3 + 1) (lv' := [(3, .int (l3 + 1)), (2, .int l3), (4, .int (t2 - t3)), (0, .ref (h 0)), (1, .int l1)]) hx hb dX10_sorts_64 hl (k := 4) rfl rfl (by decide) rfl (fun ls hl => ?_)
            refine lv_goto (pc := 67) (tgt := 16) hx hb dX10_sorts_67 (by decide) ?_
            exact ih hI (lv_sub hl [3, 4, 1, 0] rfl) hf

set_option maxHeartbeats 4000000 in
set_option maxRecDepth 100000 in
theorem k_X10_sorts_L2 {p : Program} {l : Launch} {e : Env} {s : State} {m : MethodId} {args : Array Value} {below : List Frame} {meth : Method} {c : Code} {A : Nat → Prop} {G : GX} {h : Nat → Nat} {z_thrown : Int32} {z_s : Nat → Int32} {z_kept : Nat → Int32} {z_isKept : Int32} {z_moveMany : Int32} {z_troubles : Int32} {z_troubleSorts : Nat → Int32} {z_troubleNumbers : Nat → Int32} {z_asked : Nat → Int32} {z_paint : Nat → Int32} {z_leasts : Nat → Int32} {z_isSeen : Nat → Int32} {z_classMany : Int32} {z_types : Nat → Int32} {z_typeCounts : Nat → Int32} {z_typeMany : Int32} {z_text : Nat → Int32} {z_signs : Int32} {z_at : Int32} {z_lacks : Int32} {z_clauses : Int32} {z_begun : Int32} {z_letters : Nat → Int32} {z_firsts : Nat → Int32} {z_seconds : Nat → Int32} {z_aside : Nat → Int32} {z_sorts : Nat → Int32} {z_sizes : Nat → Int32} {z_items : Nat → Int64} {K : Int32 → (Nat → Int32) → (Nat → Int32) → Option ((Nat → Int32) × (Nat → Int32))} {res : (Nat → Int32) × (Nat → Int32)} (X : CX RX10 cX10_sorts 5 none p s m args meth c) (E : EX G A s)
    (hK : ∀ (l1 : Int32) (z_moves : (Nat → Int32)) (z_hands : (Nat → Int32)) (H : Heap) (locs : List Loc) (ls : Array Slot), IN A G (mw G h z_thrown z_s z_kept z_isKept z_moveMany z_moves z_hands z_troubles z_troubleSorts z_troubleNumbers z_asked z_paint z_leasts z_isSeen z_classMany z_types z_typeCounts z_typeMany z_text z_signs z_at z_lacks z_clauses z_begun z_letters z_firsts z_seconds z_aside z_sorts z_sizes z_items) s H locs → lv_has ls 5 [(0, .ref (h 0)), (1, .int l1)] → K l1 z_moves z_hands = some res → W p l e rm_X10_sorts s m args below meth c H locs 0 0 (MQ below (QX G A (mw G h z_thrown z_s z_kept z_isKept z_moveMany res.1 res.2 z_troubles z_troubleSorts z_troubleNumbers z_asked z_paint z_leasts z_isSeen z_classMany z_types z_typeCounts z_typeMany z_text z_signs z_at z_lacks z_clauses z_begun z_letters z_firsts z_seconds z_aside z_sorts z_sizes z_items) none) args s 0 0 A) (F0 m 82 ls [])) :
    ∀ {k : Nat} {l1 : Int32} {z_moves : (Nat → Int32)} {z_hands : (Nat → Int32)} {H : Heap} {locs : List Loc} {ls : Array Slot}, IN A G (mw G h z_thrown z_s z_kept z_isKept z_moveMany z_moves z_hands z_troubles z_troubleSorts z_troubleNumbers z_asked z_paint z_leasts z_isSeen z_classMany z_types z_typeCounts z_typeMany z_text z_signs z_at z_lacks z_clauses z_begun z_letters z_firsts z_seconds z_aside z_sorts z_sizes z_items) s H locs → lv_has ls 5 [(0, .ref (h 0)), (1, .int l1)] → f_X10_sorts_L2 z_s z_moveMany K k l1 z_moves z_hands = some res → W p l e rm_X10_sorts s m args below meth c H locs 0 0 (MQ below (QX G A (mw G h z_thrown z_s z_kept z_isKept z_moveMany res.1 res.2 z_troubles z_troubleSorts z_troubleNumbers z_asked z_paint z_leasts z_isSeen z_classMany z_types z_typeCounts z_typeMany z_text z_signs z_at z_lacks z_clauses z_begun z_letters z_firsts z_seconds z_aside z_sorts z_sizes z_items) none) args s 0 0 A) (F0 m 2 ls []) := by
  obtain ⟨hx, hb, hml, hown, hts, hr, hlk⟩ := id X
  intro k
  induction k with
  | zero => intro l1 z_moves z_hands H locs ls hI hl hf; exact nomatch (show none = some res from hf)
  | succ k ih =>
    intro l1 z_moves z_hands H locs ls hI hl hf
    rw [f_X10_sorts_L2] at hf
    refine lv_iload_n (pc := 2) hx hb dX10_sorts_2 rfl (lv_at hl 1 rfl) ?_
    refine lv_aload_n (pc := 3) hx hb dX10_sorts_3 rfl (lv_at hl 0 rfl) ?_
    refine x_get (pc := 4) X E hI inX10 0 rfl rfl 4 (by decide) tw_3_233 rfl dX10_sorts_4 ?_
    refine lv_icmp_ge (pc := 7) (tgt := 82) hx hb dX10_sorts_7 (by decide) (fun c1 => ?_) (fun c1 => ?_)
    · have hf := q_ip c1 hf
      exact hK _ _ _ _ _ _ hI (lv_sub hl [0, 1] rfl) hf
    · have hf := q_in c1 hf
      refine lv_iload_n (pc := 10) hx hb dX10_sorts_10 rfl (lv_at hl 1 rfl) ?_
      refine lv_istore_n (pc := 11) (lv' := [(2, .int l1), (0, .ref (h 0)), (1, .int l1)]) hx hb dX10_sorts_11 rfl hl (by decide) rfl (fun ls hl => ?_)
      refine lv_iload_n (pc := 12) hx hb dX10_sorts_12 rfl (lv_at hl 2 rfl) ?_
      refine lv_iconst (pc := 13) (v := 1) hx hb dX10_sorts_13 (by decide) ?_
      refine lv_iadd (pc := 14) hx hb dX10_sorts_14 ?_
      refine lv_istore_n (pc := 15) (lv' := [(3, .int (l1 + 1)), (2, .int l1), (0, .ref (h 0)), (1, .int l1)]) hx hb dX10_sorts_15 rfl hl (by decide) rfl (fun ls hl => ?_)
      refine k_X10_sorts_L16 X E (fun l2_2 l3_2 H locs ls hI hl hf => ?_) hI (lv_sub hl [2, 3, 1, 0] rfl) hf
      refine lv_aload_n (pc := 70) hx hb dX10_sorts_70 rfl (lv_at hl 0 rfl) ?_
      refine lv_iload_n (pc := 71) hx hb dX10_sorts_71 rfl (lv_at hl 1 rfl) ?_
      refine lv_iload_n (pc := 72) hx hb dX10_sorts_72 rfl (lv_at hl 2 rfl) ?_
      obtain ⟨t3, e3, hf⟩ := q_ob hf
      refine x_cVs (pc := 73) (st1 := []) (w1 := (mw G h z_thrown z_s z_kept z_isKept z_moveMany t3.1 t3.2 z_troubles z_troubleSorts z_troubleNumbers z_asked z_paint z_leasts z_isSeen z_classMany z_types z_typeCounts z_typeMany z_text z_signs z_at z_lacks z_clauses z_begun z_letters z_firsts z_seconds z_aside z_sorts z_sizes z_items)) X E hI (c_X10_changePlaces l G h e3) kv_X10_123 hd_X10_changePlaces ⟨rfl, rfl⟩ (by decide) 0 rfl rfl rfl rfl hl.1 rfl (Nat.le_of_ble_eq_true rfl) dX10_sorts_73 ⟨Nat.le_of_ble_eq_true rfl, Nat.le_of_ble_eq_true rfl⟩ rfl (fun H locs hI => ?_)
      refine lv_iinc (pc := 76) (v := l1 + 1) (lv' := [(1, .int (l1 + 1)), (0, .ref (h 0)), (2, .int l2_2), (3, .int l3_2)]) hx hb dX10_sorts_76 hl (k := 1) rfl rfl (by decide) rfl (fun ls hl => ?_)
      refine lv_goto (pc := 79) (tgt := 2) hx hb dX10_sorts_79 (by decide) ?_
      exact ih hI (lv_sub hl [1, 0] rfl) hf

set_option maxHeartbeats 4000000 in
set_option maxRecDepth 100000 in
theorem c_X10_sorts (l : Launch) (G : GX) (h : Nat → Nat) {z_s : Nat → Int32} {z_moveMany : Int32} {z_moves : Nat → Int32} {z_hands : Nat → Int32} {z_thrown : Int32} {z_kept : Nat → Int32} {z_isKept : Int32} {z_troubles : Int32} {z_troubleSorts : Nat → Int32} {z_troubleNumbers : Nat → Int32} {z_asked : Nat → Int32} {z_paint : Nat → Int32} {z_leasts : Nat → Int32} {z_isSeen : Nat → Int32} {z_classMany : Int32} {z_types : Nat → Int32} {z_typeCounts : Nat → Int32} {z_typeMany : Int32} {z_text : Nat → Int32} {z_signs : Int32} {z_at : Int32} {z_lacks : Int32} {z_clauses : Int32} {z_begun : Int32} {z_letters : Nat → Int32} {z_firsts : Nat → Int32} {z_seconds : Nat → Int32} {z_aside : Nat → Int32} {z_sorts : Nat → Int32} {z_sizes : Nat → Int32} {z_items : Nat → Int64} {res : (Nat → Int32) × (Nat → Int32)} (hf : f_X10_sorts z_s z_moveMany z_moves z_hands = some res) : MX l yX10_sorts cX10_sorts 5 none rm_X10_sorts G (mw G h z_thrown z_s z_kept z_isKept z_moveMany z_moves z_hands z_troubles z_troubleSorts z_troubleNumbers z_asked z_paint z_leasts z_isSeen z_classMany z_types z_typeCounts z_typeMany z_text z_signs z_at z_lacks z_clauses z_begun z_letters z_firsts z_seconds z_aside z_sorts z_sizes z_items) [.ref (h 0)] (mw G h z_thrown z_s z_kept z_isKept z_moveMany res.1 res.2 z_troubles z_troubleSorts z_troubleNumbers z_asked z_paint z_leasts z_isSeen z_classMany z_types z_typeCounts z_typeMany z_text z_signs z_at z_lacks z_clauses z_begun z_letters z_firsts z_seconds z_aside z_sorts z_sizes z_items) none 0 0 := by
  refine MX.of (plainFor_of_name (by decide)) (Nat.le_of_ble_eq_true rfl) ?_
  intro p e s m below meth c A X E hI ls hl
  obtain ⟨hx, hb, hml, hown, hts, hr, hlk⟩ := id X
  have hl : lv_has ls 5 [(0, .ref (h 0))] := hl
  unfold f_X10_sorts at hf
  refine lv_iconst (pc := 0) (v := 0) hx hb dX10_sorts_0 (by decide) ?_
  refine lv_istore_n (pc := 1) (lv' := [(1, .int 0), (0, .ref (h 0))]) hx hb dX10_sorts_1 rfl hl (by decide) rfl (fun ls hl => ?_)
  refine k_X10_sorts_L2 X E (fun l1_1 z_moves_1 z_hands_1 H locs ls hI hl hf => ?_) hI (lv_sub hl [1, 0] rfl) hf
  obtain rfl := Option.some.inj hf
  exact x_vret X hI dX10_sorts_82

abbrev rm_X10_moves : Room := { frames := 4, cells := 0, slots := 0, locals := 89 }
set_option maxHeartbeats 4000000 in
set_option maxRecDepth 100000 in
theorem k_X10_moves_L2 {p : Program} {l : Launch} {e : Env} {s : State} {m : MethodId} {args : Array Value} {below : List Frame} {meth : Method} {c : Code} {A : Nat → Prop} {G : GX} {h : Nat → Nat} {l1 : Int32} {z_thrown : Int32} {z_s : Nat → Int32} {z_kept : Nat → Int32} {z_isKept : Int32} {z_moveMany : Int32} {z_hands : Nat → Int32} {z_troubles : Int32} {z_troubleSorts : Nat → Int32} {z_troubleNumbers : Nat → Int32} {z_asked : Nat → Int32} {z_paint : Nat → Int32} {z_leasts : Nat → Int32} {z_isSeen : Nat → Int32} {z_classMany : Int32} {z_types : Nat → Int32} {z_typeCounts : Nat → Int32} {z_typeMany : Int32} {z_text : Nat → Int32} {z_signs : Int32} {z_at : Int32} {z_lacks : Int32} {z_clauses : Int32} {z_begun : Int32} {z_letters : Nat → Int32} {z_firsts : Nat → Int32} {z_seconds : Nat → Int32} {z_aside : Nat → Int32} {z_sorts : Nat → Int32} {z_sizes : Nat → Int32} {z_items : Nat → Int64} {K : Int32 → (Nat → Int32) → Option (Int32 × Int32 × (Nat → Int32) × (Nat → Int32))} {res : Int32 × Int32 × (Nat → Int32) × (Nat → Int32)} (X : CX RX10 cX10_moves 4 (some .boolean) p s m args meth c) (E : EX G A s)
    (hK : ∀ (l2 : Int32) (z_moves : (Nat → Int32)) (H : Heap) (locs : List Loc) (ls : Array Slot), IN A G (mw G h z_thrown z_s z_kept z_isKept z_moveMany z_moves z_hands z_troubles z_troubleSorts z_troubleNumbers z_asked z_paint z_leasts z_isSeen z_classMany z_types z_typeCounts z_typeMany z_text z_signs z_at z_lacks z_clauses z_begun z_letters z_firsts z_seconds z_aside z_sorts z_sizes z_items) s H locs → lv_has ls 4 [(0, .ref (h 0)), (1, .int l1), (2, .int l2)] → K l2 z_moves = some res → W p l e rm_X10_moves s m args below meth c H locs 0 0 (MQ below (QX G A (mw G h z_thrown z_s z_kept z_isKept res.2.1 res.2.2.1 res.2.2.2 z_troubles z_troubleSorts z_troubleNumbers z_asked z_paint z_leasts z_isSeen z_classMany z_types z_typeCounts z_typeMany z_text z_signs z_at z_lacks z_clauses z_begun z_letters z_firsts z_seconds z_aside z_sorts z_sizes z_items) (some (.int res.1))) args s 0 0 A) (F0 m 21 ls [])) :
    ∀ {k : Nat} {l2 : Int32} {z_moves : (Nat → Int32)} {H : Heap} {locs : List Loc} {ls : Array Slot}, IN A G (mw G h z_thrown z_s z_kept z_isKept z_moveMany z_moves z_hands z_troubles z_troubleSorts z_troubleNumbers z_asked z_paint z_leasts z_isSeen z_classMany z_types z_typeCounts z_typeMany z_text z_signs z_at z_lacks z_clauses z_begun z_letters z_firsts z_seconds z_aside z_sorts z_sizes z_items) s H locs → lv_has ls 4 [(0, .ref (h 0)), (1, .int l1), (2, .int l2)] → f_X10_moves_L2 l1 K k l2 z_moves = some res → W p l e rm_X10_moves s m args below meth c H locs 0 0 (MQ below (QX G A (mw G h z_thrown z_s z_kept z_isKept res.2.1 res.2.2.1 res.2.2.2 z_troubles z_troubleSorts z_troubleNumbers z_asked z_paint z_leasts z_isSeen z_classMany z_types z_typeCounts z_typeMany z_text z_signs z_at z_lacks z_clauses z_begun z_letters z_firsts z_seconds z_aside z_sorts z_sizes z_items) (some (.int res.1))) args s 0 0 A) (F0 m 2 ls []) := by
  obtain ⟨hx, hb, hml, hown, hts, hr, hlk⟩ := id X
  intro k
  induction k with
  | zero => intro l2 z_moves H locs ls hI hl hf; exact nomatch (show none = some res from hf)
  | succ k ih =>
    intro l2 z_moves H locs ls hI hl hf
    rw [f_X10_moves_L2] at hf
    refine lv_iload_n (pc := 2) hx hb dX10_moves_2 rfl (lv_at hl 2 rfl) ?_
    refine lv_bipush (pc := 3) (v := 6) hx hb dX10_moves_3 (by decide) ?_
    refine lv_icmp_ge (pc := 5) (tgt := 21) hx hb dX10_moves_5 (by decide) (fun c1 => ?_) (fun c1 => ?_)
    · have hf := q_ip c1 hf
      exact hK _ _ _ _ _ hI (lv_sub hl [0, 1, 2] rfl) hf
    · have hf := q_in c1 hf
      refine lv_aload_n (pc := 8) hx hb dX10_moves_8 rfl (lv_at hl 0 rfl) ?_
      refine x_get (pc := 9) X E hI inX10 0 rfl rfl 5 (by decide) tw_3_234 rfl dX10_moves_9 ?_
      refine lv_iload_n (pc := 12) hx hb dX10_moves_12 rfl (lv_at hl 2 rfl) ?_
      refine lv_iload_n (pc := 13) hx hb dX10_moves_13 rfl (lv_at hl 2 rfl) ?_
      obtain ⟨t2, e2, hf⟩ := q_ob hf
      refine x_iast (pc := 14) (w' := (mw G h z_thrown z_s z_kept z_isKept z_moveMany t2 z_hands z_troubles z_troubleSorts z_troubleNumbers z_asked z_paint z_leasts z_isSeen z_classMany z_types z_typeCounts z_typeMany z_text z_signs z_at z_lacks z_clauses z_begun z_letters z_firsts z_seconds z_aside z_sorts z_sizes z_items)) X E hI 3 rfl e2 rfl dX10_moves_14 (fun H locs hI => ?_)
      refine lv_iinc (pc := 15) (v := l2 + 1) (lv' := [(2, .int (l2 + 1)), (0, .ref (h 0)), (1, .int l1)]) hx hb dX10_moves_15 hl (k := 2) rfl rfl (by decide) rfl (fun ls hl => ?_)
      refine lv_goto (pc := 18) (tgt := 2) hx hb dX10_moves_18 (by decide) ?_
      exact ih hI (lv_sub hl [1, 2, 0] rfl) hf

set_option maxHeartbeats 4000000 in
set_option maxRecDepth 100000 in
theorem k_X10_moves_L45 {p : Program} {l : Launch} {e : Env} {s : State} {m : MethodId} {args : Array Value} {below : List Frame} {meth : Method} {c : Code} {A : Nat → Prop} {G : GX} {h : Nat → Nat} {l1 : Int32} {l2 : Int32} {z_thrown : Int32} {z_s : Nat → Int32} {z_kept : Nat → Int32} {z_isKept : Int32} {z_troubles : Int32} {z_troubleSorts : Nat → Int32} {z_troubleNumbers : Nat → Int32} {z_asked : Nat → Int32} {z_paint : Nat → Int32} {z_leasts : Nat → Int32} {z_isSeen : Nat → Int32} {z_classMany : Int32} {z_types : Nat → Int32} {z_typeCounts : Nat → Int32} {z_typeMany : Int32} {z_text : Nat → Int32} {z_signs : Int32} {z_at : Int32} {z_lacks : Int32} {z_clauses : Int32} {z_begun : Int32} {z_letters : Nat → Int32} {z_firsts : Nat → Int32} {z_seconds : Nat → Int32} {z_aside : Nat → Int32} {z_sorts : Nat → Int32} {z_sizes : Nat → Int32} {z_items : Nat → Int64} {K : Int32 → Int32 → (Nat → Int32) → (Nat → Int32) → Option (Int32 × Int32 × (Nat → Int32) × (Nat → Int32))} {res : Int32 × Int32 × (Nat → Int32) × (Nat → Int32)} (X : CX RX10 cX10_moves 4 (some .boolean) p s m args meth c) (E : EX G A s)
    (hK : ∀ (l3 : Int32) (z_moveMany : Int32) (z_moves : (Nat → Int32)) (z_hands : (Nat → Int32)) (H : Heap) (locs : List Loc) (ls : Array Slot), IN A G (mw G h z_thrown z_s z_kept z_isKept z_moveMany z_moves z_hands z_troubles z_troubleSorts z_troubleNumbers z_asked z_paint z_leasts z_isSeen z_classMany z_types z_typeCounts z_typeMany z_text z_signs z_at z_lacks z_clauses z_begun z_letters z_firsts z_seconds z_aside z_sorts z_sizes z_items) s H locs → lv_has ls 4 [(0, .ref (h 0)), (1, .int l1), (2, .int l2), (3, .int l3)] → K l3 z_moveMany z_moves z_hands = some res → W p l e rm_X10_moves s m args below meth c H locs 0 0 (MQ below (QX G A (mw G h z_thrown z_s z_kept z_isKept res.2.1 res.2.2.1 res.2.2.2 z_troubles z_troubleSorts z_troubleNumbers z_asked z_paint z_leasts z_isSeen z_classMany z_types z_typeCounts z_typeMany z_text z_signs z_at z_lacks z_clauses z_begun z_letters z_firsts z_seconds z_aside z_sorts z_sizes z_items) (some (.int res.1))) args s 0 0 A) (F0 m 113 ls [])) :
    ∀ {k : Nat} {l3 : Int32} {z_moveMany : Int32} {z_moves : (Nat → Int32)} {z_hands : (Nat → Int32)} {H : Heap} {locs : List Loc} {ls : Array Slot}, IN A G (mw G h z_thrown z_s z_kept z_isKept z_moveMany z_moves z_hands z_troubles z_troubleSorts z_troubleNumbers z_asked z_paint z_leasts z_isSeen z_classMany z_types z_typeCounts z_typeMany z_text z_signs z_at z_lacks z_clauses z_begun z_letters z_firsts z_seconds z_aside z_sorts z_sizes z_items) s H locs → lv_has ls 4 [(0, .ref (h 0)), (1, .int l1), (2, .int l2), (3, .int l3)] → f_X10_moves_L45 l1 l2 z_s K k l3 z_moveMany z_moves z_hands = some res → W p l e rm_X10_moves s m args below meth c H locs 0 0 (MQ below (QX G A (mw G h z_thrown z_s z_kept z_isKept res.2.1 res.2.2.1 res.2.2.2 z_troubles z_troubleSorts z_troubleNumbers z_asked z_paint z_leasts z_isSeen z_classMany z_types z_typeCounts z_typeMany z_text z_signs z_at z_lacks z_clauses z_begun z_letters z_firsts z_seconds z_aside z_sorts z_sizes z_items) (some (.int res.1))) args s 0 0 A) (F0 m 45 ls []) := by
  obtain ⟨hx, hb, hml, hown, hts, hr, hlk⟩ := id X
  intro k
  induction k with
  | zero => intro l3 z_moveMany z_moves z_hands H locs ls hI hl hf; exact nomatch (show none = some res from hf)
  | succ k ih =>
    intro l3 z_moveMany z_moves z_hands H locs ls hI hl hf
    rw [f_X10_moves_L45] at hf
    refine lv_iload_n (pc := 45) hx hb dX10_moves_45 rfl (lv_at hl 3 rfl) ?_
    refine lv_aload_n (pc := 46) hx hb dX10_moves_46 rfl (lv_at hl 0 rfl) ?_
    refine x_get (pc := 47) X E hI inX10 0 rfl rfl 1 (by decide) tw_3_230 rfl dX10_moves_47 ?_
    refine lv_iconst (pc := 50) (v := 2) hx hb dX10_moves_50 (by decide) ?_
    obtain ⟨t1, e1, hf⟩ := q_ob hf
    refine x_iald (pc := 51) X E hI 1 rfl e1 dX10_moves_51 ?_
    refine lv_icmp_ge (pc := 52) (tgt := 113) hx hb dX10_moves_52 (by decide) (fun c2 => ?_) (fun c2 => ?_)
    · have hf := q_ip c2 hf
      exact hK _ _ _ _ _ _ _ hI (lv_sub hl [0, 1, 2, 3] rfl) hf
    · have hf := q_in c2 hf
      refine lv_iload_n (pc := 55) hx hb dX10_moves_55 rfl (lv_at hl 1 rfl) ?_
      refine lv_iload_n (pc := 56) hx hb dX10_moves_56 rfl (lv_at hl 3 rfl) ?_
      obtain ⟨t3, e3, hf⟩ := q_ob hf
      refine x_cSn (pc := 57) (st1 := [.int t3]) X E hI (c_X10_has l G e3) ks_X10_110 hd_X10_has ⟨rfl, rfl⟩ (by decide) rfl hl.1 rfl (Nat.le_of_ble_eq_true rfl) dX10_moves_57 ⟨Nat.le_of_ble_eq_true rfl, Nat.le_of_ble_eq_true rfl⟩ rfl (fun H locs hI => ?_)
      refine lv_if_ne (pc := 60) (tgt := 66) hx hb dX10_moves_60 (by decide) (fun c4 => ?_) (fun c4 => ?_)
      · have hf := q_in c4 hf
        refine lv_aload_n (pc := 66) hx hb dX10_moves_66 rfl (lv_at hl 0 rfl) ?_
        refine lv_iload_n (pc := 67) hx hb dX10_moves_67 rfl (lv_at hl 2 rfl) ?_
        refine lv_iload_n (pc := 68) hx hb dX10_moves_68 rfl (lv_at hl 3 rfl) ?_
        obtain ⟨t5, e5, hf⟩ := q_ob hf
        refine x_cVs (pc := 69) (st1 := []) (w1 := (mw G h z_thrown z_s z_kept z_isKept z_moveMany t5.1 t5.2 z_troubles z_troubleSorts z_troubleNumbers z_asked z_paint z_leasts z_isSeen z_classMany z_types z_typeCounts z_typeMany z_text z_signs z_at z_lacks z_clauses z_begun z_letters z_firsts z_seconds z_aside z_sorts z_sizes z_items)) X E hI (c_X10_goesBehind l G h e5) kv_X10_113 hd_X10_goesBehind ⟨rfl, rfl⟩ (by decide) 0 rfl rfl rfl rfl hl.1 rfl (Nat.le_of_ble_eq_true rfl) dX10_moves_69 ⟨Nat.le_of_ble_eq_true rfl, Nat.le_of_ble_eq_true rfl⟩ rfl (fun H locs hI => ?_)
        refine lv_aload_n (pc := 72) hx hb dX10_moves_72 rfl (lv_at hl 0 rfl) ?_
        refine lv_aload_n (pc := 73) hx hb dX10_moves_73 rfl (lv_at hl 0 rfl) ?_
        refine x_get (pc := 74) X E hI inX10 0 rfl rfl 4 (by decide) tw_3_233 rfl dX10_moves_74 ?_
        obtain ⟨t6, e6, hf⟩ := q_ob hf
        refine x_cVs (pc := 77) (st1 := [.int t6]) (w1 := (mw G h z_thrown z_s z_kept z_isKept z_moveMany t5.1 t5.2 z_troubles z_troubleSorts z_troubleNumbers z_asked z_paint z_leasts z_isSeen z_classMany z_types z_typeCounts z_typeMany z_text z_signs z_at z_lacks z_clauses z_begun z_letters z_firsts z_seconds z_aside z_sorts z_sizes z_items)) X E hI (c_X10_isKnown l G h e6) kv_X10_117 hd_X10_isKnown ⟨rfl, rfl⟩ (by decide) 0 rfl rfl rfl rfl hl.1 rfl (Nat.le_of_ble_eq_true rfl) dX10_moves_77 ⟨Nat.le_of_ble_eq_true rfl, Nat.le_of_ble_eq_true rfl⟩ rfl (fun H locs hI => ?_)
        refine lv_if_eq (pc := 80) (tgt := 86) hx hb dX10_moves_80 (by decide) (fun c7 => ?_) (fun c7 => ?_)
        · have hf := q_ip c7 hf
          refine lv_aload_n (pc := 86) hx hb dX10_moves_86 rfl (lv_at hl 0 rfl) ?_
          refine x_get (pc := 87) X E hI inX10 0 rfl rfl 4 (by decide) tw_3_233 rfl dX10_moves_87 ?_
          refine lv_bipush (pc := 90) (v := 120) hx hb dX10_moves_90 (by decide) ?_
          refine lv_icmp_ne (pc := 92) (tgt := 97) hx hb dX10_moves_92 (by decide) (fun c8 => ?_) (fun c8 => ?_)
          · have hf := q_in c8 hf
            refine lv_aload_n (pc := 97) hx hb dX10_moves_97 rfl (lv_at hl 0 rfl) ?_
            refine lv_dup (pc := 98) hx hb dX10_moves_98 rfl ?_
            refine x_get (pc := 99) X E hI inX10 0 rfl rfl 4 (by decide) tw_3_233 rfl dX10_moves_99 ?_
            refine lv_iconst (pc := 102) (v := 1) hx hb dX10_moves_102 (by decide) ?_
            refine lv_iadd (pc := 103) hx hb dX10_moves_103 ?_
            refine x_put (pc := 104) (w' := (mw G h z_thrown z_s z_kept z_isKept (z_moveMany + 1) t5.1 t5.2 z_troubles z_troubleSorts z_troubleNumbers z_asked z_paint z_leasts z_isSeen z_classMany z_types z_typeCounts z_typeMany z_text z_signs z_at z_lacks z_clauses z_begun z_letters z_firsts z_seconds z_aside z_sorts z_sizes z_items)) X E hI inX10 tyX10 tyX10_ok nmX10 0 rfl rfl 4 (by decide) tw_3_233 rfl rfl rfl (Nat.le_of_ble_eq_true rfl) rfl dX10_moves_104 (fun H locs hI => ?_)
            refine lv_iinc (pc := 107) (v := l3 + 1) (lv' := [(3, .int (l3 + 1)), (0, .ref (h 0)), (1, .int l1), (2, .int l2)]) hx hb dX10_moves_107 hl (k := 3) rfl rfl (by decide) rfl (fun ls hl => ?_)
            refine lv_goto (pc := 110) (tgt := 45) hx hb dX10_moves_110 (by decide) ?_
            exact ih hI (lv_sub hl [1, 2, 3, 0] rfl) hf
          · have hf := q_ip c8 hf
            refine lv_iconst (pc := 95) (v := 0) hx hb dX10_moves_95 (by decide) ?_
            obtain rfl := Option.some.inj hf
            exact x_zret X hI (Or.inl rfl) dX10_moves_96
        · have hf := q_in c7 hf
          refine lv_goto (pc := 83) (tgt := 107) hx hb dX10_moves_83 (by decide) ?_
          refine lv_iinc (pc := 107) (v := l3 + 1) (lv' := [(3, .int (l3 + 1)), (0, .ref (h 0)), (1, .int l1), (2, .int l2)]) hx hb dX10_moves_107 hl (k := 3) rfl rfl (by decide) rfl (fun ls hl => ?_)
          refine lv_goto (pc := 110) (tgt := 45) hx hb dX10_moves_110 (by decide) ?_
          exact ih hI (lv_sub hl [1, 2, 3, 0] rfl) hf
      · have hf := q_ip c4 hf
        refine lv_goto (pc := 63) (tgt := 107) hx hb dX10_moves_63 (by decide) ?_
        refine lv_iinc (pc := 107) (v := l3 + 1) (lv' := [(3, .int (l3 + 1)), (0, .ref (h 0)), (1, .int l1), (2, .int l2)]) hx hb dX10_moves_107 hl (k := 3) rfl rfl (by decide) rfl (fun ls hl => ?_)
        refine lv_goto (pc := 110) (tgt := 45) hx hb dX10_moves_110 (by decide) ?_
        exact ih hI (lv_sub hl [1, 2, 3, 0] rfl) hf

set_option maxHeartbeats 4000000 in
set_option maxRecDepth 100000 in
theorem k_X10_moves_L35 {p : Program} {l : Launch} {e : Env} {s : State} {m : MethodId} {args : Array Value} {below : List Frame} {meth : Method} {c : Code} {A : Nat → Prop} {G : GX} {h : Nat → Nat} {l1 : Int32} {z_thrown : Int32} {z_s : Nat → Int32} {z_kept : Nat → Int32} {z_isKept : Int32} {z_troubles : Int32} {z_troubleSorts : Nat → Int32} {z_troubleNumbers : Nat → Int32} {z_asked : Nat → Int32} {z_paint : Nat → Int32} {z_leasts : Nat → Int32} {z_isSeen : Nat → Int32} {z_classMany : Int32} {z_types : Nat → Int32} {z_typeCounts : Nat → Int32} {z_typeMany : Int32} {z_text : Nat → Int32} {z_signs : Int32} {z_at : Int32} {z_lacks : Int32} {z_clauses : Int32} {z_begun : Int32} {z_letters : Nat → Int32} {z_firsts : Nat → Int32} {z_seconds : Nat → Int32} {z_aside : Nat → Int32} {z_sorts : Nat → Int32} {z_sizes : Nat → Int32} {z_items : Nat → Int64} {K : Int32 → Int32 → (Nat → Int32) → (Nat → Int32) → Option (Int32 × Int32 × (Nat → Int32) × (Nat → Int32))} {res : Int32 × Int32 × (Nat → Int32) × (Nat → Int32)} (X : CX RX10 cX10_moves 4 (some .boolean) p s m args meth c) (E : EX G A s)
    (hK : ∀ (l2 : Int32) (z_moveMany : Int32) (z_moves : (Nat → Int32)) (z_hands : (Nat → Int32)) (H : Heap) (locs : List Loc) (ls : Array Slot), IN A G (mw G h z_thrown z_s z_kept z_isKept z_moveMany z_moves z_hands z_troubles z_troubleSorts z_troubleNumbers z_asked z_paint z_leasts z_isSeen z_classMany z_types z_typeCounts z_typeMany z_text z_signs z_at z_lacks z_clauses z_begun z_letters z_firsts z_seconds z_aside z_sorts z_sizes z_items) s H locs → lv_has ls 4 [(0, .ref (h 0)), (1, .int l1), (2, .int l2)] → K l2 z_moveMany z_moves z_hands = some res → W p l e rm_X10_moves s m args below meth c H locs 0 0 (MQ below (QX G A (mw G h z_thrown z_s z_kept z_isKept res.2.1 res.2.2.1 res.2.2.2 z_troubles z_troubleSorts z_troubleNumbers z_asked z_paint z_leasts z_isSeen z_classMany z_types z_typeCounts z_typeMany z_text z_signs z_at z_lacks z_clauses z_begun z_letters z_firsts z_seconds z_aside z_sorts z_sizes z_items) (some (.int res.1))) args s 0 0 A) (F0 m 119 ls [])) :
    ∀ {k : Nat} {l2 : Int32} {z_moveMany : Int32} {z_moves : (Nat → Int32)} {z_hands : (Nat → Int32)} {H : Heap} {locs : List Loc} {ls : Array Slot}, IN A G (mw G h z_thrown z_s z_kept z_isKept z_moveMany z_moves z_hands z_troubles z_troubleSorts z_troubleNumbers z_asked z_paint z_leasts z_isSeen z_classMany z_types z_typeCounts z_typeMany z_text z_signs z_at z_lacks z_clauses z_begun z_letters z_firsts z_seconds z_aside z_sorts z_sizes z_items) s H locs → lv_has ls 4 [(0, .ref (h 0)), (1, .int l1), (2, .int l2)] → f_X10_moves_L35 l1 z_s K k l2 z_moveMany z_moves z_hands = some res → W p l e rm_X10_moves s m args below meth c H locs 0 0 (MQ below (QX G A (mw G h z_thrown z_s z_kept z_isKept res.2.1 res.2.2.1 res.2.2.2 z_troubles z_troubleSorts z_troubleNumbers z_asked z_paint z_leasts z_isSeen z_classMany z_types z_typeCounts z_typeMany z_text z_signs z_at z_lacks z_clauses z_begun z_letters z_firsts z_seconds z_aside z_sorts z_sizes z_items) (some (.int res.1))) args s 0 0 A) (F0 m 35 ls []) := by
  obtain ⟨hx, hb, hml, hown, hts, hr, hlk⟩ := id X
  intro k
  induction k with
  | zero => intro l2 z_moveMany z_moves z_hands H locs ls hI hl hf; exact nomatch (show none = some res from hf)
  | succ k ih =>
    intro l2 z_moveMany z_moves z_hands H locs ls hI hl hf
    rw [f_X10_moves_L35] at hf
    refine lv_iload_n (pc := 35) hx hb dX10_moves_35 rfl (lv_at hl 2 rfl) ?_
    refine lv_aload_n (pc := 36) hx hb dX10_moves_36 rfl (lv_at hl 0 rfl) ?_
    refine x_get (pc := 37) X E hI inX10 0 rfl rfl 4 (by decide) tw_3_233 rfl dX10_moves_37 ?_
    refine lv_icmp_ge (pc := 40) (tgt := 119) hx hb dX10_moves_40 (by decide) (fun c1 => ?_) (fun c1 => ?_)
    · have hf := q_ip c1 hf
      exact hK _ _ _ _ _ _ _ hI (lv_sub hl [0, 1, 2] rfl) hf
    · have hf := q_in c1 hf
      refine lv_iconst (pc := 43) (v := 0) hx hb dX10_moves_43 (by decide) ?_
      refine lv_istore_n (pc := 44) (lv' := [(3, .int 0), (0, .ref (h 0)), (1, .int l1), (2, .int l2)]) hx hb dX10_moves_44 rfl hl (by decide) rfl (fun ls hl => ?_)
      refine k_X10_moves_L45 X E (fun l3_2 z_moveMany_2 z_moves_2 z_hands_2 H locs ls hI hl hf => ?_) hI (lv_sub hl [1, 2, 3, 0] rfl) hf
      refine lv_iinc (pc := 113) (v := l2 + 1) (lv' := [(2, .int (l2 + 1)), (0, .ref (h 0)), (1, .int l1), (3, .int l3_2)]) hx hb dX10_moves_113 hl (k := 2) rfl rfl (by decide) rfl (fun ls hl => ?_)
      refine lv_goto (pc := 116) (tgt := 35) hx hb dX10_moves_116 (by decide) ?_
      exact ih hI (lv_sub hl [1, 2, 0] rfl) hf

set_option maxHeartbeats 4000000 in
set_option maxRecDepth 100000 in
theorem c_X10_moves (l : Launch) (G : GX) (h : Nat → Nat) {l1 : Int32} {z_s : Nat → Int32} {z_moveMany : Int32} {z_moves : Nat → Int32} {z_hands : Nat → Int32} {z_thrown : Int32} {z_kept : Nat → Int32} {z_isKept : Int32} {z_troubles : Int32} {z_troubleSorts : Nat → Int32} {z_troubleNumbers : Nat → Int32} {z_asked : Nat → Int32} {z_paint : Nat → Int32} {z_leasts : Nat → Int32} {z_isSeen : Nat → Int32} {z_classMany : Int32} {z_types : Nat → Int32} {z_typeCounts : Nat → Int32} {z_typeMany : Int32} {z_text : Nat → Int32} {z_signs : Int32} {z_at : Int32} {z_lacks : Int32} {z_clauses : Int32} {z_begun : Int32} {z_letters : Nat → Int32} {z_firsts : Nat → Int32} {z_seconds : Nat → Int32} {z_aside : Nat → Int32} {z_sorts : Nat → Int32} {z_sizes : Nat → Int32} {z_items : Nat → Int64} {res : Int32 × Int32 × (Nat → Int32) × (Nat → Int32)} (hf : f_X10_moves l1 z_s z_moveMany z_moves z_hands = some res) : MX l yX10_moves cX10_moves 4 (some .boolean) rm_X10_moves G (mw G h z_thrown z_s z_kept z_isKept z_moveMany z_moves z_hands z_troubles z_troubleSorts z_troubleNumbers z_asked z_paint z_leasts z_isSeen z_classMany z_types z_typeCounts z_typeMany z_text z_signs z_at z_lacks z_clauses z_begun z_letters z_firsts z_seconds z_aside z_sorts z_sizes z_items) [.ref (h 0), .int l1] (mw G h z_thrown z_s z_kept z_isKept res.2.1 res.2.2.1 res.2.2.2 z_troubles z_troubleSorts z_troubleNumbers z_asked z_paint z_leasts z_isSeen z_classMany z_types z_typeCounts z_typeMany z_text z_signs z_at z_lacks z_clauses z_begun z_letters z_firsts z_seconds z_aside z_sorts z_sizes z_items) (some (.int res.1)) 0 0 := by
  refine MX.of (plainFor_of_name (by decide)) (Nat.le_of_ble_eq_true rfl) ?_
  intro p e s m below meth c A X E hI ls hl
  obtain ⟨hx, hb, hml, hown, hts, hr, hlk⟩ := id X
  have hl : lv_has ls 4 [(0, .ref (h 0)), (1, .int l1)] := hl
  unfold f_X10_moves at hf
  refine lv_iconst (pc := 0) (v := 0) hx hb dX10_moves_0 (by decide) ?_
  refine lv_istore_n (pc := 1) (lv' := [(2, .int 0), (0, .ref (h 0)), (1, .int l1)]) hx hb dX10_moves_1 rfl hl (by decide) rfl (fun ls hl => ?_)
  refine k_X10_moves_L2 X E (fun l2_1 z_moves_1 H locs ls hI hl hf => ?_) hI (lv_sub hl [1, 2, 0] rfl) hf
  refine lv_aload_n (pc := 21) hx hb dX10_moves_21 rfl (lv_at hl 0 rfl) ?_
  refine x_get (pc := 22) X E hI inX10 0 rfl rfl 6 (by decide) tw_3_235 rfl dX10_moves_22 ?_
  refine lv_iconst (pc := 25) (v := 0) hx hb dX10_moves_25 (by decide) ?_
  refine lv_iconst (pc := 26) (v := 0) hx hb dX10_moves_26 (by decide) ?_
  obtain ⟨t2, e2, hf⟩ := q_ob hf
  refine x_iast (pc := 27) (w' := (mw G h z_thrown z_s z_kept z_isKept z_moveMany z_moves_1 t2 z_troubles z_troubleSorts z_troubleNumbers z_asked z_paint z_leasts z_isSeen z_classMany z_types z_typeCounts z_typeMany z_text z_signs z_at z_lacks z_clauses z_begun z_letters z_firsts z_seconds z_aside z_sorts z_sizes z_items)) X E hI 4 rfl e2 rfl dX10_moves_27 (fun H locs hI => ?_)
  refine lv_aload_n (pc := 28) hx hb dX10_moves_28 rfl (lv_at hl 0 rfl) ?_
  refine lv_iconst (pc := 29) (v := 1) hx hb dX10_moves_29 (by decide) ?_
  refine x_put (pc := 30) (w' := (mw G h z_thrown z_s z_kept z_isKept 1 z_moves_1 t2 z_troubles z_troubleSorts z_troubleNumbers z_asked z_paint z_leasts z_isSeen z_classMany z_types z_typeCounts z_typeMany z_text z_signs z_at z_lacks z_clauses z_begun z_letters z_firsts z_seconds z_aside z_sorts z_sizes z_items)) X E hI inX10 tyX10 tyX10_ok nmX10 0 rfl rfl 4 (by decide) tw_3_233 rfl rfl rfl (Nat.le_of_ble_eq_true rfl) rfl dX10_moves_30 (fun H locs hI => ?_)
  refine lv_iconst (pc := 33) (v := 0) hx hb dX10_moves_33 (by decide) ?_
  refine lv_istore_n (pc := 34) (lv' := [(2, .int 0), (0, .ref (h 0)), (1, .int l1)]) hx hb dX10_moves_34 rfl hl (by decide) rfl (fun ls hl => ?_)
  refine k_X10_moves_L35 X E (fun l2_3 z_moveMany_3 z_moves_3 z_hands_3 H locs ls hI hl hf => ?_) hI (lv_sub hl [1, 2, 0] rfl) hf
  refine lv_aload_n (pc := 119) hx hb dX10_moves_119 rfl (lv_at hl 0 rfl) ?_
  obtain ⟨t4, e4, hf⟩ := q_ob hf
  refine x_cVs (pc := 120) (st1 := []) (w1 := (mw G h z_thrown z_s z_kept z_isKept z_moveMany_3 t4.1 t4.2 z_troubles z_troubleSorts z_troubleNumbers z_asked z_paint z_leasts z_isSeen z_classMany z_types z_typeCounts z_typeMany z_text z_signs z_at z_lacks z_clauses z_begun z_letters z_firsts z_seconds z_aside z_sorts z_sizes z_items)) X E hI (c_X10_sorts l G h e4) kv_X10_121 hd_X10_sorts ⟨rfl, rfl⟩ (by decide) 0 rfl rfl rfl rfl hl.1 rfl (Nat.le_of_ble_eq_true rfl) dX10_moves_120 ⟨Nat.le_of_ble_eq_true rfl, Nat.le_of_ble_eq_true rfl⟩ rfl (fun H locs hI => ?_)
  refine lv_iconst (pc := 123) (v := 1) hx hb dX10_moves_123 (by decide) ?_
  obtain rfl := Option.some.inj hf
  exact x_zret X hI (Or.inr rfl) dX10_moves_124

abbrev rm_X10_allGenerators : Room := { frames := 0, cells := 0, slots := 0, locals := 0 }
set_option maxHeartbeats 4000000 in
set_option maxRecDepth 100000 in
theorem c_X10_allGenerators (l : Launch) (G : GX) (h : Nat → Nat) {z_s : Nat → Int32} {z_thrown : Int32} {z_kept : Nat → Int32} {z_isKept : Int32} {z_moveMany : Int32} {z_moves : Nat → Int32} {z_hands : Nat → Int32} {z_troubles : Int32} {z_troubleSorts : Nat → Int32} {z_troubleNumbers : Nat → Int32} {z_asked : Nat → Int32} {z_paint : Nat → Int32} {z_leasts : Nat → Int32} {z_isSeen : Nat → Int32} {z_classMany : Int32} {z_types : Nat → Int32} {z_typeCounts : Nat → Int32} {z_typeMany : Int32} {z_text : Nat → Int32} {z_signs : Int32} {z_at : Int32} {z_lacks : Int32} {z_clauses : Int32} {z_begun : Int32} {z_letters : Nat → Int32} {z_firsts : Nat → Int32} {z_seconds : Nat → Int32} {z_aside : Nat → Int32} {z_sorts : Nat → Int32} {z_sizes : Nat → Int32} {z_items : Nat → Int64} {res : Int32} (hf : f_X10_allGenerators z_s = some res) : MX l yX10_allGenerators cX10_allGenerators 1 (some .int) rm_X10_allGenerators G (mw G h z_thrown z_s z_kept z_isKept z_moveMany z_moves z_hands z_troubles z_troubleSorts z_troubleNumbers z_asked z_paint z_leasts z_isSeen z_classMany z_types z_typeCounts z_typeMany z_text z_signs z_at z_lacks z_clauses z_begun z_letters z_firsts z_seconds z_aside z_sorts z_sizes z_items) [.ref (h 0)] (mw G h z_thrown z_s z_kept z_isKept z_moveMany z_moves z_hands z_troubles z_troubleSorts z_troubleNumbers z_asked z_paint z_leasts z_isSeen z_classMany z_types z_typeCounts z_typeMany z_text z_signs z_at z_lacks z_clauses z_begun z_letters z_firsts z_seconds z_aside z_sorts z_sizes z_items) (some (.int res)) 0 0 := by
  refine MX.of (plainFor_of_name (by decide)) (Nat.le_of_ble_eq_true rfl) ?_
  intro p e s m below meth c A X E hI ls hl
  obtain ⟨hx, hb, hml, hown, hts, hr, hlk⟩ := id X
  have hl : lv_has ls 1 [(0, .ref (h 0))] := hl
  unfold f_X10_allGenerators at hf
  refine lv_iconst (pc := 0) (v := 1) hx hb dX10_allGenerators_0 (by decide) ?_
  refine lv_aload_n (pc := 1) hx hb dX10_allGenerators_1 rfl (lv_at hl 0 rfl) ?_
  refine x_get (pc := 2) X E hI inX10 0 rfl rfl 1 (by decide) tw_3_230 rfl dX10_allGenerators_2 ?_
  refine lv_iconst (pc := 5) (v := 2) hx hb dX10_allGenerators_5 (by decide) ?_
  obtain ⟨t1, e1, hf⟩ := q_ob hf
  refine x_iald (pc := 6) X E hI 1 rfl e1 dX10_allGenerators_6 ?_
  refine lv_ishl (pc := 7) hx hb dX10_allGenerators_7 ?_
  refine lv_iconst (pc := 8) (v := 1) hx hb dX10_allGenerators_8 (by decide) ?_
  refine lv_isub (pc := 9) hx hb dX10_allGenerators_9 ?_
  obtain rfl := Option.some.inj hf
  exact x_iret X hI dX10_allGenerators_10

abbrev rm_X10_moves_ : Room := { frames := 5, cells := 0, slots := 0, locals := 112 }
set_option maxHeartbeats 4000000 in
set_option maxRecDepth 100000 in
theorem c_X10_moves_ (l : Launch) (G : GX) (h : Nat → Nat) {z_s : Nat → Int32} {z_moveMany : Int32} {z_moves : Nat → Int32} {z_hands : Nat → Int32} {z_thrown : Int32} {z_kept : Nat → Int32} {z_isKept : Int32} {z_troubles : Int32} {z_troubleSorts : Nat → Int32} {z_troubleNumbers : Nat → Int32} {z_asked : Nat → Int32} {z_paint : Nat → Int32} {z_leasts : Nat → Int32} {z_isSeen : Nat → Int32} {z_classMany : Int32} {z_types : Nat → Int32} {z_typeCounts : Nat → Int32} {z_typeMany : Int32} {z_text : Nat → Int32} {z_signs : Int32} {z_at : Int32} {z_lacks : Int32} {z_clauses : Int32} {z_begun : Int32} {z_letters : Nat → Int32} {z_firsts : Nat → Int32} {z_seconds : Nat → Int32} {z_aside : Nat → Int32} {z_sorts : Nat → Int32} {z_sizes : Nat → Int32} {z_items : Nat → Int64} {res : Int32 × (Nat → Int32) × (Nat → Int32)} (hf : f_X10_moves_ z_s z_moveMany z_moves z_hands = some res) : MX l yX10_moves_ cX10_moves_ 1 none rm_X10_moves_ G (mw G h z_thrown z_s z_kept z_isKept z_moveMany z_moves z_hands z_troubles z_troubleSorts z_troubleNumbers z_asked z_paint z_leasts z_isSeen z_classMany z_types z_typeCounts z_typeMany z_text z_signs z_at z_lacks z_clauses z_begun z_letters z_firsts z_seconds z_aside z_sorts z_sizes z_items) [.ref (h 0)] (mw G h z_thrown z_s z_kept z_isKept res.1 res.2.1 res.2.2 z_troubles z_troubleSorts z_troubleNumbers z_asked z_paint z_leasts z_isSeen z_classMany z_types z_typeCounts z_typeMany z_text z_signs z_at z_lacks z_clauses z_begun z_letters z_firsts z_seconds z_aside z_sorts z_sizes z_items) none 0 0 := by
  refine MX.of (plainFor_of_name (by decide)) (Nat.le_of_ble_eq_true rfl) ?_
  intro p e s m below meth c A X E hI ls hl
  obtain ⟨hx, hb, hml, hown, hts, hr, hlk⟩ := id X
  have hl : lv_has ls 1 [(0, .ref (h 0))] := hl
  unfold f_X10_moves_ at hf
  refine lv_aload_n (pc := 0) hx hb dX10_moves__0 rfl (lv_at hl 0 rfl) ?_
  refine lv_aload_n (pc := 1) hx hb dX10_moves__1 rfl (lv_at hl 0 rfl) ?_
  obtain ⟨t1, e1, hf⟩ := q_ob hf
  refine x_cVs (pc := 2) (st1 := [.int t1, .ref (h 0)]) (w1 := (mw G h z_thrown z_s z_kept z_isKept z_moveMany z_moves z_hands z_troubles z_troubleSorts z_troubleNumbers z_asked z_paint z_leasts z_isSeen z_classMany z_types z_typeCounts z_typeMany z_text z_signs z_at z_lacks z_clauses z_begun z_letters z_firsts z_seconds z_aside z_sorts z_sizes z_items)) X E hI (c_X10_allGenerators l G h e1) kv_X10_126 hd_X10_allGenerators ⟨rfl, rfl⟩ (by decide) 0 rfl rfl rfl rfl hl.1 rfl (Nat.le_of_ble_eq_true rfl) dX10_moves__2 ⟨Nat.le_of_ble_eq_true rfl, Nat.le_of_ble_eq_true rfl⟩ rfl (fun H locs hI => ?_)
  obtain ⟨t2, e2, hf⟩ := q_ob hf
  refine x_cVs (pc := 5) (st1 := [.int t2.1]) (w1 := (mw G h z_thrown z_s z_kept z_isKept t2.2.1 t2.2.2.1 t2.2.2.2 z_troubles z_troubleSorts z_troubleNumbers z_asked z_paint z_leasts z_isSeen z_classMany z_types z_typeCounts z_typeMany z_text z_signs z_at z_lacks z_clauses z_begun z_letters z_firsts z_seconds z_aside z_sorts z_sizes z_items)) X E hI (c_X10_moves l G h e2) kv_X10_130 hd_X10_moves ⟨rfl, rfl⟩ (by decide) 0 rfl rfl rfl rfl hl.1 rfl (Nat.le_of_ble_eq_true rfl) dX10_moves__5 ⟨Nat.le_of_ble_eq_true rfl, Nat.le_of_ble_eq_true rfl⟩ rfl (fun H locs hI => ?_)
  refine lv_pop (pc := 8) hx hb dX10_moves__8 rfl ?_
  obtain rfl := Option.some.inj hf
  exact x_vret X hI dX10_moves__9

abbrev rm_X10_counts : Room := { frames := 0, cells := 0, slots := 0, locals := 0 }
set_option maxHeartbeats 4000000 in
set_option maxRecDepth 100000 in
theorem c_X10_counts (l : Launch) (G : GX) (h : Nat → Nat) {l1 : Int32} {l2 : Int32} {z_hands : Nat → Int32} {z_thrown : Int32} {z_s : Nat → Int32} {z_kept : Nat → Int32} {z_isKept : Int32} {z_moveMany : Int32} {z_moves : Nat → Int32} {z_troubles : Int32} {z_troubleSorts : Nat → Int32} {z_troubleNumbers : Nat → Int32} {z_asked : Nat → Int32} {z_paint : Nat → Int32} {z_leasts : Nat → Int32} {z_isSeen : Nat → Int32} {z_classMany : Int32} {z_types : Nat → Int32} {z_typeCounts : Nat → Int32} {z_typeMany : Int32} {z_text : Nat → Int32} {z_signs : Int32} {z_at : Int32} {z_lacks : Int32} {z_clauses : Int32} {z_begun : Int32} {z_letters : Nat → Int32} {z_firsts : Nat → Int32} {z_seconds : Nat → Int32} {z_aside : Nat → Int32} {z_sorts : Nat → Int32} {z_sizes : Nat → Int32} {z_items : Nat → Int64} {res : Int32} (hf : f_X10_counts l1 l2 z_hands = some res) : MX l yX10_counts cX10_counts 3 (some .boolean) rm_X10_counts G (mw G h z_thrown z_s z_kept z_isKept z_moveMany z_moves z_hands z_troubles z_troubleSorts z_troubleNumbers z_asked z_paint z_leasts z_isSeen z_classMany z_types z_typeCounts z_typeMany z_text z_signs z_at z_lacks z_clauses z_begun z_letters z_firsts z_seconds z_aside z_sorts z_sizes z_items) [.ref (h 0), .int l1, .int l2] (mw G h z_thrown z_s z_kept z_isKept z_moveMany z_moves z_hands z_troubles z_troubleSorts z_troubleNumbers z_asked z_paint z_leasts z_isSeen z_classMany z_types z_typeCounts z_typeMany z_text z_signs z_at z_lacks z_clauses z_begun z_letters z_firsts z_seconds z_aside z_sorts z_sizes z_items) (some (.int res)) 0 0 := by
  refine MX.of (plainFor_of_name (by decide)) (Nat.le_of_ble_eq_true rfl) ?_
  intro p e s m below meth c A X E hI ls hl
  obtain ⟨hx, hb, hml, hown, hts, hr, hlk⟩ := id X
  have hl : lv_has ls 3 [(0, .ref (h 0)), (1, .int l1), (2, .int l2)] := hl
  unfold f_X10_counts at hf
  refine lv_iload_n (pc := 0) hx hb dX10_counts_0 rfl (lv_at hl 2 rfl) ?_
  refine lv_iconst (pc := 1) (v := 1) hx hb dX10_counts_1 (by decide) ?_
  refine lv_icmp_eq (pc := 2) (tgt := 14) hx hb dX10_counts_2 (by decide) (fun c1 => ?_) (fun c1 => ?_)
  · have hf := q_ip c1 hf
    refine lv_iconst (pc := 14) (v := 1) hx hb dX10_counts_14 (by decide) ?_
    refine lv_goto (pc := 15) (tgt := 19) hx hb dX10_counts_15 (by decide) ?_
    obtain rfl := Option.some.inj hf
    exact x_zret X hI (Or.inr rfl) dX10_counts_19
  · have hf := q_in c1 hf
    refine lv_aload_n (pc := 5) hx hb dX10_counts_5 rfl (lv_at hl 0 rfl) ?_
    refine x_get (pc := 6) X E hI inX10 0 rfl rfl 6 (by decide) tw_3_235 rfl dX10_counts_6 ?_
    refine lv_iload_n (pc := 9) hx hb dX10_counts_9 rfl (lv_at hl 1 rfl) ?_
    obtain ⟨t2, e2, hf⟩ := q_ob hf
    refine x_iald (pc := 10) X E hI 4 rfl e2 dX10_counts_10 ?_
    refine lv_if_ne (pc := 11) (tgt := 18) hx hb dX10_counts_11 (by decide) (fun c3 => ?_) (fun c3 => ?_)
    · have hf := q_in c3 hf
      refine lv_iconst (pc := 18) (v := 0) hx hb dX10_counts_18 (by decide) ?_
      obtain rfl := Option.some.inj hf
      exact x_zret X hI (Or.inl rfl) dX10_counts_19
    · have hf := q_ip c3 hf
      refine lv_iconst (pc := 14) (v := 1) hx hb dX10_counts_14 (by decide) ?_
      refine lv_goto (pc := 15) (tgt := 19) hx hb dX10_counts_15 (by decide) ?_
      obtain rfl := Option.some.inj hf
      exact x_zret X hI (Or.inr rfl) dX10_counts_19

abbrev rm_X10_manyOf : Room := { frames := 1, cells := 0, slots := 0, locals := 22 }
set_option maxHeartbeats 4000000 in
set_option maxRecDepth 100000 in
theorem k_X10_manyOf_L4 {p : Program} {l : Launch} {e : Env} {s : State} {m : MethodId} {args : Array Value} {below : List Frame} {meth : Method} {c : Code} {A : Nat → Prop} {G : GX} {h : Nat → Nat} {l1 : Int32} {z_thrown : Int32} {z_s : Nat → Int32} {z_kept : Nat → Int32} {z_isKept : Int32} {z_moveMany : Int32} {z_moves : Nat → Int32} {z_hands : Nat → Int32} {z_troubles : Int32} {z_troubleSorts : Nat → Int32} {z_troubleNumbers : Nat → Int32} {z_asked : Nat → Int32} {z_paint : Nat → Int32} {z_leasts : Nat → Int32} {z_isSeen : Nat → Int32} {z_classMany : Int32} {z_types : Nat → Int32} {z_typeCounts : Nat → Int32} {z_typeMany : Int32} {z_text : Nat → Int32} {z_signs : Int32} {z_at : Int32} {z_lacks : Int32} {z_clauses : Int32} {z_begun : Int32} {z_letters : Nat → Int32} {z_firsts : Nat → Int32} {z_seconds : Nat → Int32} {z_aside : Nat → Int32} {z_sorts : Nat → Int32} {z_sizes : Nat → Int32} {z_items : Nat → Int64} {K : Int32 → Int32 → Option (Int32)} {res : Int32} (X : CX RX10 cX10_manyOf 4 (some .int) p s m args meth c) (E : EX G A s)
    (hK : ∀ (l2 : Int32) (l3 : Int32) (H : Heap) (locs : List Loc) (ls : Array Slot), IN A G (mw G h z_thrown z_s z_kept z_isKept z_moveMany z_moves z_hands z_troubles z_troubleSorts z_troubleNumbers z_asked z_paint z_leasts z_isSeen z_classMany z_types z_typeCounts z_typeMany z_text z_signs z_at z_lacks z_clauses z_begun z_letters z_firsts z_seconds z_aside z_sorts z_sizes z_items) s H locs → lv_has ls 4 [(0, .ref (h 0)), (1, .int l1), (2, .int l2), (3, .int l3)] → K l2 l3 = some res → W p l e rm_X10_manyOf s m args below meth c H locs 0 0 (MQ below (QX G A (mw G h z_thrown z_s z_kept z_isKept z_moveMany z_moves z_hands z_troubles z_troubleSorts z_troubleNumbers z_asked z_paint z_leasts z_isSeen z_classMany z_types z_typeCounts z_typeMany z_text z_signs z_at z_lacks z_clauses z_begun z_letters z_firsts z_seconds z_aside z_sorts z_sizes z_items) (some (.int res))) args s 0 0 A) (F0 m 35 ls [])) :
    ∀ {k : Nat} {l2 : Int32} {l3 : Int32} {H : Heap} {locs : List Loc} {ls : Array Slot}, IN A G (mw G h z_thrown z_s z_kept z_isKept z_moveMany z_moves z_hands z_troubles z_troubleSorts z_troubleNumbers z_asked z_paint z_leasts z_isSeen z_classMany z_types z_typeCounts z_typeMany z_text z_signs z_at z_lacks z_clauses z_begun z_letters z_firsts z_seconds z_aside z_sorts z_sizes z_items) s H locs → lv_has ls 4 [(0, .ref (h 0)), (1, .int l1), (2, .int l2), (3, .int l3)] → f_X10_manyOf_L4 l1 z_moveMany z_hands K k l2 l3 = some res → W p l e rm_X10_manyOf s m args below meth c H locs 0 0 (MQ below (QX G A (mw G h z_thrown z_s z_kept z_isKept z_moveMany z_moves z_hands z_troubles z_troubleSorts z_troubleNumbers z_asked z_paint z_leasts z_isSeen z_classMany z_types z_typeCounts z_typeMany z_text z_signs z_at z_lacks z_clauses z_begun z_letters z_firsts z_seconds z_aside z_sorts z_sizes z_items) (some (.int res))) args s 0 0 A) (F0 m 4 ls []) := by
  obtain ⟨hx, hb, hml, hown, hts, hr, hlk⟩ := id X
  intro k
  induction k with
  | zero => intro l2 l3 H locs ls hI hl hf; exact nomatch (show none = some res from hf)
  | succ k ih =>
    intro l2 l3 H locs ls hI hl hf
    rw [f_X10_manyOf_L4] at hf
    refine lv_iload_n (pc := 4) hx hb dX10_manyOf_4 rfl (lv_at hl 3 rfl) ?_
    refine lv_aload_n (pc := 5) hx hb dX10_manyOf_5 rfl (lv_at hl 0 rfl) ?_
    refine x_get (pc := 6) X E hI inX10 0 rfl rfl 4 (by decide) tw_3_233 rfl dX10_manyOf_6 ?_
    refine lv_icmp_ge (pc := 9) (tgt := 35) hx hb dX10_manyOf_9 (by decide) (fun c1 => ?_) (fun c1 => ?_)
    · have hf := q_ip c1 hf
      exact hK _ _ _ _ _ hI (lv_sub hl [0, 1, 2, 3] rfl) hf
    · have hf := q_in c1 hf
      refine lv_iload_n (pc := 12) hx hb dX10_manyOf_12 rfl (lv_at hl 2 rfl) ?_
      refine lv_aload_n (pc := 13) hx hb dX10_manyOf_13 rfl (lv_at hl 0 rfl) ?_
      refine lv_iload_n (pc := 14) hx hb dX10_manyOf_14 rfl (lv_at hl 3 rfl) ?_
      refine lv_iload_n (pc := 15) hx hb dX10_manyOf_15 rfl (lv_at hl 1 rfl) ?_
      obtain ⟨t2, e2, hf⟩ := q_ob hf
      refine x_cVs (pc := 16) (st1 := [.int t2, .int l2]) (w1 := (mw G h z_thrown z_s z_kept z_isKept z_moveMany z_moves z_hands z_troubles z_troubleSorts z_troubleNumbers z_asked z_paint z_leasts z_isSeen z_classMany z_types z_typeCounts z_typeMany z_text z_signs z_at z_lacks z_clauses z_begun z_letters z_firsts z_seconds z_aside z_sorts z_sizes z_items)) X E hI (c_X10_counts l G h e2) kv_X10_132 hd_X10_counts ⟨rfl, rfl⟩ (by decide) 0 rfl rfl rfl rfl hl.1 rfl (Nat.le_of_ble_eq_true rfl) dX10_manyOf_16 ⟨Nat.le_of_ble_eq_true rfl, Nat.le_of_ble_eq_true rfl⟩ rfl (fun H locs hI => ?_)
      refine lv_if_eq (pc := 19) (tgt := 26) hx hb dX10_manyOf_19 (by decide) (fun c3 => ?_) (fun c3 => ?_)
      · have hf := q_ip c3 hf
        refine lv_iconst (pc := 26) (v := 0) hx hb dX10_manyOf_26 (by decide) ?_
        refine lv_iadd (pc := 27) hx hb dX10_manyOf_27 ?_
        refine lv_istore_n (pc := 28) (lv' := [(2, .int (l2 + 0)), (0, .ref (h 0)), (1, .int l1), (3, .int l3)]) hx hb dX10_manyOf_28 rfl hl (by decide) rfl (fun ls hl => ?_)
        refine lv_iinc (pc := 29) (v := l3 + 1) (lv' := [(3, .int (l3 + 1)), (2, .int (l2 + 0)), (0, .ref (h 0)), (1, .int l1)]) hx hb dX10_manyOf_29 hl (k := 3) rfl rfl (by decide) rfl (fun ls hl => ?_)
        refine lv_goto (pc := 32) (tgt := 4) hx hb dX10_manyOf_32 (by decide) ?_
        exact ih hI (lv_sub hl [2, 3, 1, 0] rfl) hf
      · have hf := q_in c3 hf
        refine lv_iconst (pc := 22) (v := 1) hx hb dX10_manyOf_22 (by decide) ?_
        refine lv_goto (pc := 23) (tgt := 27) hx hb dX10_manyOf_23 (by decide) ?_
        refine lv_iadd (pc := 27) hx hb dX10_manyOf_27 ?_
        refine lv_istore_n (pc := 28) (lv' := [(2, .int (l2 + 1)), (0, .ref (h 0)), (1, .int l1), (3, .int l3)]) hx hb dX10_manyOf_28 rfl hl (by decide) rfl (fun ls hl => ?_)
        refine lv_iinc (pc := 29) (v := l3 + 1) (lv' := [(3, .int (l3 + 1)), (2, .int (l2 + 1)), (0, .ref (h 0)), (1, .int l1)]) hx hb dX10_manyOf_29 hl (k := 3) rfl rfl (by decide) rfl (fun ls hl => ?_)
        refine lv_goto (pc := 32) (tgt := 4) hx hb dX10_manyOf_32 (by decide) ?_
        exact ih hI (lv_sub hl [2, 3, 1, 0] rfl) hf

set_option maxHeartbeats 4000000 in
set_option maxRecDepth 100000 in
theorem c_X10_manyOf (l : Launch) (G : GX) (h : Nat → Nat) {l1 : Int32} {z_moveMany : Int32} {z_hands : Nat → Int32} {z_thrown : Int32} {z_s : Nat → Int32} {z_kept : Nat → Int32} {z_isKept : Int32} {z_moves : Nat → Int32} {z_troubles : Int32} {z_troubleSorts : Nat → Int32} {z_troubleNumbers : Nat → Int32} {z_asked : Nat → Int32} {z_paint : Nat → Int32} {z_leasts : Nat → Int32} {z_isSeen : Nat → Int32} {z_classMany : Int32} {z_types : Nat → Int32} {z_typeCounts : Nat → Int32} {z_typeMany : Int32} {z_text : Nat → Int32} {z_signs : Int32} {z_at : Int32} {z_lacks : Int32} {z_clauses : Int32} {z_begun : Int32} {z_letters : Nat → Int32} {z_firsts : Nat → Int32} {z_seconds : Nat → Int32} {z_aside : Nat → Int32} {z_sorts : Nat → Int32} {z_sizes : Nat → Int32} {z_items : Nat → Int64} {res : Int32} (hf : f_X10_manyOf l1 z_moveMany z_hands = some res) : MX l yX10_manyOf cX10_manyOf 4 (some .int) rm_X10_manyOf G (mw G h z_thrown z_s z_kept z_isKept z_moveMany z_moves z_hands z_troubles z_troubleSorts z_troubleNumbers z_asked z_paint z_leasts z_isSeen z_classMany z_types z_typeCounts z_typeMany z_text z_signs z_at z_lacks z_clauses z_begun z_letters z_firsts z_seconds z_aside z_sorts z_sizes z_items) [.ref (h 0), .int l1] (mw G h z_thrown z_s z_kept z_isKept z_moveMany z_moves z_hands z_troubles z_troubleSorts z_troubleNumbers z_asked z_paint z_leasts z_isSeen z_classMany z_types z_typeCounts z_typeMany z_text z_signs z_at z_lacks z_clauses z_begun z_letters z_firsts z_seconds z_aside z_sorts z_sizes z_items) (some (.int res)) 0 0 := by
  refine MX.of (plainFor_of_name (by decide)) (Nat.le_of_ble_eq_true rfl) ?_
  intro p e s m below meth c A X E hI ls hl
  obtain ⟨hx, hb, hml, hown, hts, hr, hlk⟩ := id X
  have hl : lv_has ls 4 [(0, .ref (h 0)), (1, .int l1)] := hl
  unfold f_X10_manyOf at hf
  refine lv_iconst (pc := 0) (v := 0) hx hb dX10_manyOf_0 (by decide) ?_
  refine lv_istore_n (pc := 1) (lv' := [(2, .int 0), (0, .ref (h 0)), (1, .int l1)]) hx hb dX10_manyOf_1 rfl hl (by decide) rfl (fun ls hl => ?_)
  refine lv_iconst (pc := 2) (v := 0) hx hb dX10_manyOf_2 (by decide) ?_
  refine lv_istore_n (pc := 3) (lv' := [(3, .int 0), (2, .int 0), (0, .ref (h 0)), (1, .int l1)]) hx hb dX10_manyOf_3 rfl hl (by decide) rfl (fun ls hl => ?_)
  refine k_X10_manyOf_L4 X E (fun l2_1 l3_1 H locs ls hI hl hf => ?_) hI (lv_sub hl [2, 3, 1, 0] rfl) hf
  refine lv_iload_n (pc := 35) hx hb dX10_manyOf_35 rfl (lv_at hl 2 rfl) ?_
  obtain rfl := Option.some.inj hf
  exact x_iret X hI dX10_manyOf_36

abbrev rm_X10_isRow : Room := { frames := 1, cells := 0, slots := 0, locals := 25 }
set_option maxHeartbeats 4000000 in
set_option maxRecDepth 100000 in
theorem k_X10_isRow_L14 {p : Program} {l : Launch} {e : Env} {s : State} {m : MethodId} {args : Array Value} {below : List Frame} {meth : Method} {c : Code} {A : Nat → Prop} {G : GX} {h : Nat → Nat} {z_thrown : Int32} {z_s : Nat → Int32} {z_kept : Nat → Int32} {z_isKept : Int32} {z_moveMany : Int32} {z_moves : Nat → Int32} {z_hands : Nat → Int32} {z_troubles : Int32} {z_troubleSorts : Nat → Int32} {z_troubleNumbers : Nat → Int32} {z_asked : Nat → Int32} {z_paint : Nat → Int32} {z_leasts : Nat → Int32} {z_isSeen : Nat → Int32} {z_classMany : Int32} {z_types : Nat → Int32} {z_typeCounts : Nat → Int32} {z_typeMany : Int32} {z_text : Nat → Int32} {z_signs : Int32} {z_at : Int32} {z_lacks : Int32} {z_clauses : Int32} {z_begun : Int32} {z_letters : Nat → Int32} {z_firsts : Nat → Int32} {z_seconds : Nat → Int32} {z_aside : Nat → Int32} {z_sorts : Nat → Int32} {z_sizes : Nat → Int32} {z_items : Nat → Int64} {K : Int32 → Int32 → Int32 → Option (Int32)} {res : Int32} (X : CX RX10 cX10_isRow 6 (some .boolean) p s m args meth c) (E : EX G A s)
    (hK : ∀ (l2 : Int32) (l3 : Int32) (l4 : Int32) (H : Heap) (locs : List Loc) (ls : Array Slot), IN A G (mw G h z_thrown z_s z_kept z_isKept z_moveMany z_moves z_hands z_troubles z_troubleSorts z_troubleNumbers z_asked z_paint z_leasts z_isSeen z_classMany z_types z_typeCounts z_typeMany z_text z_signs z_at z_lacks z_clauses z_begun z_letters z_firsts z_seconds z_aside z_sorts z_sizes z_items) s H locs → lv_has ls 6 [(0, .ref (h 0)), (2, .int l2), (3, .int l3), (4, .int l4)] → K l2 l3 l4 = some res → W p l e rm_X10_isRow s m args below meth c H locs 0 0 (MQ below (QX G A (mw G h z_thrown z_s z_kept z_isKept z_moveMany z_moves z_hands z_troubles z_troubleSorts z_troubleNumbers z_asked z_paint z_leasts z_isSeen z_classMany z_types z_typeCounts z_typeMany z_text z_signs z_at z_lacks z_clauses z_begun z_letters z_firsts z_seconds z_aside z_sorts z_sizes z_items) (some (.int res))) args s 0 0 A) (F0 m 79 ls [])) :
    ∀ {k : Nat} {l2 : Int32} {l3 : Int32} {l4 : Int32} {H : Heap} {locs : List Loc} {ls : Array Slot}, IN A G (mw G h z_thrown z_s z_kept z_isKept z_moveMany z_moves z_hands z_troubles z_troubleSorts z_troubleNumbers z_asked z_paint z_leasts z_isSeen z_classMany z_types z_typeCounts z_typeMany z_text z_signs z_at z_lacks z_clauses z_begun z_letters z_firsts z_seconds z_aside z_sorts z_sizes z_items) s H locs → lv_has ls 6 [(0, .ref (h 0)), (2, .int l2), (3, .int l3), (4, .int l4)] → f_X10_isRow_L14 z_s K k l2 l3 l4 = some res → W p l e rm_X10_isRow s m args below meth c H locs 0 0 (MQ below (QX G A (mw G h z_thrown z_s z_kept z_isKept z_moveMany z_moves z_hands z_troubles z_troubleSorts z_troubleNumbers z_asked z_paint z_leasts z_isSeen z_classMany z_types z_typeCounts z_typeMany z_text z_signs z_at z_lacks z_clauses z_begun z_letters z_firsts z_seconds z_aside z_sorts z_sizes z_items) (some (.int res))) args s 0 0 A) (F0 m 14 ls []) := by
  obtain ⟨hx, hb, hml, hown, hts, hr, hlk⟩ := id X
  intro k
  induction k with
  | zero => intro l2 l3 l4 H locs ls hI hl hf; exact nomatch (show none = some res from hf)
  | succ k ih =>
    intro l2 l3 l4 H locs ls hI hl hf
    rw [f_X10_isRow_L14] at hf
    refine lv_iload (pc := 14) hx hb dX10_isRow_14 (lv_at hl 3 rfl) ?_
    refine lv_if_lt (pc := 16) (tgt := 79) hx hb dX10_isRow_16 (by decide) (fun c1 => ?_) (fun c1 => ?_)
    · have hf := q_ip c1 hf
      exact hK _ _ _ _ _ _ hI (lv_sub hl [0, 1, 2, 3] rfl) hf
    · have hf := q_in c1 hf
      refine lv_iload_n (pc := 19) hx hb dX10_isRow_19 rfl (lv_at hl 1 rfl) ?_
      refine lv_bipush (pc := 20) (v := 10) hx hb dX10_isRow_20 (by decide) ?_
      obtain ⟨t2, e2, hf⟩ := q_ob hf
      refine x_irem (pc := 22) X e2 dX10_isRow_22 ?_
      refine lv_iconst (pc := 23) (v := 1) hx hb dX10_isRow_23 (by decide) ?_
      refine lv_isub (pc := 24) hx hb dX10_isRow_24 ?_
      refine lv_istore (pc := 25) (lv' := [(5, .int (t2 - 1)), (0, .ref (h 0)), (2, .int l2), (3, .int l3), (4, .int l4)]) hx hb dX10_isRow_25 hl (by decide) rfl (fun ls hl => ?_)
      refine lv_iload_n (pc := 27) hx hb dX10_isRow_27 rfl (lv_at hl 2 rfl) ?_
      refine lv_if_le (pc := 28) (tgt := 59) hx hb dX10_isRow_28 (by decide) (fun c3 => ?_) (fun c3 => ?_)
      · have hf := q_ip c3 hf
        refine lv_iconst (pc := 59) (v := 0) hx hb dX10_isRow_59 (by decide) ?_
        obtain rfl := Option.some.inj hf
        exact x_zret X hI (Or.inl rfl) dX10_isRow_60
      · have hf := q_in c3 hf
        refine lv_iload (pc := 31) hx hb dX10_isRow_31 (lv_at hl 0 rfl) ?_
        refine lv_i2l (pc := 33) (v := (t2 - 1 : Int32).toInt64) hx hb dX10_isRow_33 rfl ?_
        refine lv_lconst (pc := 34) (v := 0) hx hb dX10_isRow_34 (by decide) ?_
        refine lv_aload_n (pc := 35) hx hb dX10_isRow_35 rfl (lv_at hl 1 rfl) ?_
        refine x_get (pc := 36) X E hI inX10 0 rfl rfl 1 (by decide) tw_3_230 rfl dX10_isRow_36 ?_
        refine lv_iconst (pc := 39) (v := 0) hx hb dX10_isRow_39 (by decide) ?_
        obtain ⟨t4, e4, hf⟩ := q_ob hf
        refine x_iald (pc := 40) X E hI 1 rfl e4 dX10_isRow_40 ?_
        refine lv_iconst (pc := 41) (v := 1) hx hb dX10_isRow_41 (by decide) ?_
        refine lv_isub (pc := 42) hx hb dX10_isRow_42 ?_
        refine lv_i2l (pc := 43) (v := (t4 - 1 : Int32).toInt64) hx hb dX10_isRow_43 rfl ?_
        obtain ⟨t5, e5, hf⟩ := q_ob hf
        refine x_cSn (pc := 44) (st1 := [.int t5]) X E hI (c_X10_in l G e5) ks_X10_85 hd_X10_in ⟨rfl, rfl⟩ (by decide) rfl hl.1 rfl (Nat.le_of_ble_eq_true rfl) dX10_isRow_44 ⟨Nat.le_of_ble_eq_true rfl, Nat.le_of_ble_eq_true rfl⟩ rfl (fun H locs hI => ?_)
        refine lv_if_eq (pc := 47) (tgt := 59) hx hb dX10_isRow_47 (by decide) (fun c6 => ?_) (fun c6 => ?_)
        · have hf := q_ip c6 hf
          refine lv_iconst (pc := 59) (v := 0) hx hb dX10_isRow_59 (by decide) ?_
          obtain rfl := Option.some.inj hf
          exact x_zret X hI (Or.inl rfl) dX10_isRow_60
        · have hf := q_in c6 hf
          refine lv_iload_n (pc := 50) hx hb dX10_isRow_50 rfl (lv_at hl 3 rfl) ?_
          refine lv_iload (pc := 51) hx hb dX10_isRow_51 (lv_at hl 0 rfl) ?_
          obtain ⟨t7, e7, hf⟩ := q_ob hf
          refine x_cSn (pc := 53) (st1 := [.int t7]) X E hI (c_X10_has l G e7) ks_X10_110 hd_X10_has ⟨rfl, rfl⟩ (by decide) rfl hl.1 rfl (Nat.le_of_ble_eq_true rfl) dX10_isRow_53 ⟨Nat.le_of_ble_eq_true rfl, Nat.le_of_ble_eq_true rfl⟩ rfl (fun H locs hI => ?_)
          refine lv_if_eq (pc := 56) (tgt := 61) hx hb dX10_isRow_56 (by decide) (fun c8 => ?_) (fun c8 => ?_)
          · have hf := q_ip c8 hf
            refine lv_iload_n (pc := 61) hx hb dX10_isRow_61 rfl (lv_at hl 3 rfl) ?_
            refine lv_iconst (pc := 62) (v := 1) hx hb dX10_isRow_62 (by decide) ?_
            refine lv_iload (pc := 63) hx hb dX10_isRow_63 (lv_at hl 0 rfl) ?_
            refine lv_ishl (pc := 65) hx hb dX10_isRow_65 ?_
            refine lv_ior (pc := 66) hx hb dX10_isRow_66 ?_
            refine lv_istore_n (pc := 67) (lv' := [(3, .int (l3 ||| (1 <<< ((t2 - 1) &&& 31)))), (5, .int (t2 - 1)), (0, .ref (h 0)), (2, .int l2), (4, .int l4)]) hx hb dX10_isRow_67 rfl hl (by decide) rfl (fun ls hl => ?_)
            refine lv_iload_n (pc := 68) hx hb dX10_isRow_68 rfl (lv_at hl 3 rfl) ?_
            refine lv_bipush (pc := 69) (v := 10) hx hb dX10_isRow_69 (by decide) ?_
            obtain ⟨t9, e9, hf⟩ := q_ob hf
            refine x_idiv (pc := 71) X e9 dX10_isRow_71 ?_
            refine lv_istore_n (pc := 72) (lv' := [(2, .int t9), (3, .int (l3 ||| (1 <<< ((t2 - 1) &&& 31)))), (5, .int (t2 - 1)), (0, .ref (h 0)), (4, .int l4)]) hx hb dX10_isRow_72 rfl hl (by decide) rfl (fun ls hl => ?_)
            refine lv_iinc (pc := 73) (v := l4 + (-1)) (lv' := [(4, .int (l4 + (-1))), (2, .int t9), (3, .int (l3 ||| (1 <<< ((t2 - 1) &&& 31)))), (5, .int (t2 - 1)), (0, .ref (h 0))]) hx hb dX10_isRow_73 hl (k := 4) rfl rfl (by decide) rfl (fun ls hl => ?_)
            refine lv_goto (pc := 76) (tgt := 14) hx hb dX10_isRow_76 (by decide) ?_
            exact ih hI (lv_sub hl [4, 1, 2, 0] rfl) hf
          · have hf := q_in c8 hf
            refine lv_iconst (pc := 59) (v := 0) hx hb dX10_isRow_59 (by decide) ?_
            obtain rfl := Option.some.inj hf
            exact x_zret X hI (Or.inl rfl) dX10_isRow_60

set_option maxHeartbeats 4000000 in
set_option maxRecDepth 100000 in
theorem c_X10_isRow (l : Launch) (G : GX) (h : Nat → Nat) {l1 : Int32} {z_s : Nat → Int32} {z_thrown : Int32} {z_kept : Nat → Int32} {z_isKept : Int32} {z_moveMany : Int32} {z_moves : Nat → Int32} {z_hands : Nat → Int32} {z_troubles : Int32} {z_troubleSorts : Nat → Int32} {z_troubleNumbers : Nat → Int32} {z_asked : Nat → Int32} {z_paint : Nat → Int32} {z_leasts : Nat → Int32} {z_isSeen : Nat → Int32} {z_classMany : Int32} {z_types : Nat → Int32} {z_typeCounts : Nat → Int32} {z_typeMany : Int32} {z_text : Nat → Int32} {z_signs : Int32} {z_at : Int32} {z_lacks : Int32} {z_clauses : Int32} {z_begun : Int32} {z_letters : Nat → Int32} {z_firsts : Nat → Int32} {z_seconds : Nat → Int32} {z_aside : Nat → Int32} {z_sorts : Nat → Int32} {z_sizes : Nat → Int32} {z_items : Nat → Int64} {res : Int32} (hf : f_X10_isRow l1 z_s = some res) : MX l yX10_isRow cX10_isRow 6 (some .boolean) rm_X10_isRow G (mw G h z_thrown z_s z_kept z_isKept z_moveMany z_moves z_hands z_troubles z_troubleSorts z_troubleNumbers z_asked z_paint z_leasts z_isSeen z_classMany z_types z_typeCounts z_typeMany z_text z_signs z_at z_lacks z_clauses z_begun z_letters z_firsts z_seconds z_aside z_sorts z_sizes z_items) [.ref (h 0), .int l1] (mw G h z_thrown z_s z_kept z_isKept z_moveMany z_moves z_hands z_troubles z_troubleSorts z_troubleNumbers z_asked z_paint z_leasts z_isSeen z_classMany z_types z_typeCounts z_typeMany z_text z_signs z_at z_lacks z_clauses z_begun z_letters z_firsts z_seconds z_aside z_sorts z_sizes z_items) (some (.int res)) 0 0 := by
  refine MX.of (plainFor_of_name (by decide)) (Nat.le_of_ble_eq_true rfl) ?_
  intro p e s m below meth c A X E hI ls hl
  obtain ⟨hx, hb, hml, hown, hts, hr, hlk⟩ := id X
  have hl : lv_has ls 6 [(0, .ref (h 0)), (1, .int l1)] := hl
  unfold f_X10_isRow at hf
  refine lv_iload_n (pc := 0) hx hb dX10_isRow_0 rfl (lv_at hl 1 rfl) ?_
  refine lv_istore_n (pc := 1) (lv' := [(2, .int l1), (0, .ref (h 0)), (1, .int l1)]) hx hb dX10_isRow_1 rfl hl (by decide) rfl (fun ls hl => ?_)
  refine lv_iconst (pc := 2) (v := 0) hx hb dX10_isRow_2 (by decide) ?_
  refine lv_istore_n (pc := 3) (lv' := [(3, .int 0), (2, .int l1), (0, .ref (h 0)), (1, .int l1)]) hx hb dX10_isRow_3 rfl hl (by decide) rfl (fun ls hl => ?_)
  refine lv_aload_n (pc := 4) hx hb dX10_isRow_4 rfl (lv_at hl 2 rfl) ?_
  refine x_get (pc := 5) X E hI inX10 0 rfl rfl 1 (by decide) tw_3_230 rfl dX10_isRow_5 ?_
  refine lv_iconst (pc := 8) (v := 0) hx hb dX10_isRow_8 (by decide) ?_
  obtain ⟨t1, e1, hf⟩ := q_ob hf
  refine x_iald (pc := 9) X E hI 1 rfl e1 dX10_isRow_9 ?_
  refine lv_iconst (pc := 10) (v := 1) hx hb dX10_isRow_10 (by decide) ?_
  refine lv_isub (pc := 11) hx hb dX10_isRow_11 ?_
  refine lv_istore (pc := 12) (lv' := [(4, .int (t1 - 1)), (3, .int 0), (2, .int l1), (0, .ref (h 0)), (1, .int l1)]) hx hb dX10_isRow_12 hl (by decide) rfl (fun ls hl => ?_)
  refine k_X10_isRow_L14 X E (fun l2_2 l3_2 l4_2 H locs ls hI hl hf => ?_) hI (lv_sub hl [3, 2, 1, 0] rfl) hf
  refine lv_iload_n (pc := 79) hx hb dX10_isRow_79 rfl (lv_at hl 1 rfl) ?_
  refine lv_if_ne (pc := 80) (tgt := 87) hx hb dX10_isRow_80 (by decide) (fun c3 => ?_) (fun c3 => ?_)
  · have hf := q_in c3 hf
    refine lv_iconst (pc := 87) (v := 0) hx hb dX10_isRow_87 (by decide) ?_
    obtain rfl := Option.some.inj hf
    exact x_zret X hI (Or.inl rfl) dX10_isRow_88
  · have hf := q_ip c3 hf
    refine lv_iconst (pc := 83) (v := 1) hx hb dX10_isRow_83 (by decide) ?_
    refine lv_goto (pc := 84) (tgt := 88) hx hb dX10_isRow_84 (by decide) ?_
    obtain rfl := Option.some.inj hf
    exact x_zret X hI (Or.inr rfl) dX10_isRow_88

abbrev rm_X10_tells : Room := { frames := 0, cells := 0, slots := 0, locals := 0 }
set_option maxHeartbeats 4000000 in
set_option maxRecDepth 100000 in
theorem c_X10_tells (l : Launch) (G : GX) (h : Nat → Nat) {l1 : Int32} {l2 : Int32} {z_troubles : Int32} {z_troubleSorts : Nat → Int32} {z_troubleNumbers : Nat → Int32} {z_thrown : Int32} {z_s : Nat → Int32} {z_kept : Nat → Int32} {z_isKept : Int32} {z_moveMany : Int32} {z_moves : Nat → Int32} {z_hands : Nat → Int32} {z_asked : Nat → Int32} {z_paint : Nat → Int32} {z_leasts : Nat → Int32} {z_isSeen : Nat → Int32} {z_classMany : Int32} {z_types : Nat → Int32} {z_typeCounts : Nat → Int32} {z_typeMany : Int32} {z_text : Nat → Int32} {z_signs : Int32} {z_at : Int32} {z_lacks : Int32} {z_clauses : Int32} {z_begun : Int32} {z_letters : Nat → Int32} {z_firsts : Nat → Int32} {z_seconds : Nat → Int32} {z_aside : Nat → Int32} {z_sorts : Nat → Int32} {z_sizes : Nat → Int32} {z_items : Nat → Int64} {res : Int32 × (Nat → Int32) × (Nat → Int32)} (hf : f_X10_tells l1 l2 z_troubles z_troubleSorts z_troubleNumbers = some res) : MX l yX10_tells cX10_tells 3 none rm_X10_tells G (mw G h z_thrown z_s z_kept z_isKept z_moveMany z_moves z_hands z_troubles z_troubleSorts z_troubleNumbers z_asked z_paint z_leasts z_isSeen z_classMany z_types z_typeCounts z_typeMany z_text z_signs z_at z_lacks z_clauses z_begun z_letters z_firsts z_seconds z_aside z_sorts z_sizes z_items) [.ref (h 0), .int l1, .int l2] (mw G h z_thrown z_s z_kept z_isKept z_moveMany z_moves z_hands res.1 res.2.1 res.2.2 z_asked z_paint z_leasts z_isSeen z_classMany z_types z_typeCounts z_typeMany z_text z_signs z_at z_lacks z_clauses z_begun z_letters z_firsts z_seconds z_aside z_sorts z_sizes z_items) none 0 0 := by
  refine MX.of (plainFor_of_name (by decide)) (Nat.le_of_ble_eq_true rfl) ?_
  intro p e s m below meth c A X E hI ls hl
  obtain ⟨hx, hb, hml, hown, hts, hr, hlk⟩ := id X
  have hl : lv_has ls 3 [(0, .ref (h 0)), (1, .int l1), (2, .int l2)] := hl
  unfold f_X10_tells at hf
  refine lv_aload_n (pc := 0) hx hb dX10_tells_0 rfl (lv_at hl 0 rfl) ?_
  refine x_get (pc := 1) X E hI inX10 0 rfl rfl 8 (by decide) tw_3_237 rfl dX10_tells_1 ?_
  refine lv_aload_n (pc := 4) hx hb dX10_tells_4 rfl (lv_at hl 0 rfl) ?_
  refine x_get (pc := 5) X E hI inX10 0 rfl rfl 7 (by decide) tw_3_236 rfl dX10_tells_5 ?_
  refine lv_iload_n (pc := 8) hx hb dX10_tells_8 rfl (lv_at hl 1 rfl) ?_
  obtain ⟨t1, e1, hf⟩ := q_ob hf
  refine x_iast (pc := 9) (w' := (mw G h z_thrown z_s z_kept z_isKept z_moveMany z_moves z_hands z_troubles t1 z_troubleNumbers z_asked z_paint z_leasts z_isSeen z_classMany z_types z_typeCounts z_typeMany z_text z_signs z_at z_lacks z_clauses z_begun z_letters z_firsts z_seconds z_aside z_sorts z_sizes z_items)) X E hI 5 rfl e1 rfl dX10_tells_9 (fun H locs hI => ?_)
  refine lv_aload_n (pc := 10) hx hb dX10_tells_10 rfl (lv_at hl 0 rfl) ?_
  refine x_get (pc := 11) X E hI inX10 0 rfl rfl 9 (by decide) tw_3_238 rfl dX10_tells_11 ?_
  refine lv_aload_n (pc := 14) hx hb dX10_tells_14 rfl (lv_at hl 0 rfl) ?_
  refine x_get (pc := 15) X E hI inX10 0 rfl rfl 7 (by decide) tw_3_236 rfl dX10_tells_15 ?_
  refine lv_iload_n (pc := 18) hx hb dX10_tells_18 rfl (lv_at hl 2 rfl) ?_
  obtain ⟨t2, e2, hf⟩ := q_ob hf
  refine x_iast (pc := 19) (w' := (mw G h z_thrown z_s z_kept z_isKept z_moveMany z_moves z_hands z_troubles t1 t2 z_asked z_paint z_leasts z_isSeen z_classMany z_types z_typeCounts z_typeMany z_text z_signs z_at z_lacks z_clauses z_begun z_letters z_firsts z_seconds z_aside z_sorts z_sizes z_items)) X E hI 6 rfl e2 rfl dX10_tells_19 (fun H locs hI => ?_)
  refine lv_aload_n (pc := 20) hx hb dX10_tells_20 rfl (lv_at hl 0 rfl) ?_
  refine lv_dup (pc := 21) hx hb dX10_tells_21 rfl ?_
  refine x_get (pc := 22) X E hI inX10 0 rfl rfl 7 (by decide) tw_3_236 rfl dX10_tells_22 ?_
  refine lv_iconst (pc := 25) (v := 1) hx hb dX10_tells_25 (by decide) ?_
  refine lv_iadd (pc := 26) hx hb dX10_tells_26 ?_
  refine x_put (pc := 27) (w' := (mw G h z_thrown z_s z_kept z_isKept z_moveMany z_moves z_hands (z_troubles + 1) t1 t2 z_asked z_paint z_leasts z_isSeen z_classMany z_types z_typeCounts z_typeMany z_text z_signs z_at z_lacks z_clauses z_begun z_letters z_firsts z_seconds z_aside z_sorts z_sizes z_items)) X E hI inX10 tyX10 tyX10_ok nmX10 0 rfl rfl 7 (by decide) tw_3_236 rfl rfl rfl (Nat.le_of_ble_eq_true rfl) rfl dX10_tells_27 (fun H locs hI => ?_)
  obtain rfl := Option.some.inj hf
  exact x_vret X hI dX10_tells_30

