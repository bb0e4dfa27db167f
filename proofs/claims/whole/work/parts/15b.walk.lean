abbrev rm_X3_addSeen : Room := { frames := 0, cells := 0, slots := 0, locals := 0 }
set_option maxHeartbeats 4000000 in
set_option maxRecDepth 100000 in
theorem c_X3_addSeen (l : Launch) (G : GX) (a0 : Nat) (a1 : Nat) (a2 : Nat) (a3 : Nat) (a4 : Nat) (a5 : Nat) (a6 : Nat) (a7 : Nat) (a8 : Nat) (a9 : Nat) {l1 : Int32} {l2 : Int32} {l3 : Int32} {f_places : Int32} {f_howManySeen : Int32} {f_seenFirst : Nat → Int32} {f_seenSecond : Nat → Int32} {f_seenIs : Nat → Int32} {f_seenPlaces : Nat → Int32} {f_kinds : Int32} {f_weights : Nat → Int32} {f_howManyGenerators : Int32} {f_generators : Nat → Int32} {f_racks : Nat → Int32} {f_howManyEvents : Int32} {f_eventWhat : Nat → Int32} {f_eventNumber : Nat → Int32} {res : Int32 × Int32 × (Nat → Int32) × (Nat → Int32) × (Nat → Int32) × (Nat → Int32)} (hf : f_X3_addSeen l1 l2 l3 f_places f_howManySeen f_seenFirst f_seenSecond f_seenIs f_seenPlaces = some res) : MX l yX3_addSeen cX3_addSeen 4 (some .boolean) rm_X3_addSeen G (fw G a0 a1 a2 a3 a4 a5 a6 a7 a8 a9 f_places f_kinds f_weights f_howManyGenerators f_generators f_racks f_howManySeen f_seenFirst f_seenSecond f_seenIs f_seenPlaces f_howManyEvents f_eventWhat f_eventNumber) [.ref (a0), .int l1, .int l2, .int l3] (fw G a0 a1 a2 a3 a4 a5 a6 a7 a8 a9 f_places f_kinds f_weights f_howManyGenerators f_generators f_racks res.2.1 res.2.2.1 res.2.2.2.1 res.2.2.2.2.1 res.2.2.2.2.2 f_howManyEvents f_eventWhat f_eventNumber) (some (.int res.1)) 0 0 := by
  refine MX.of (plainFor_of_name (by decide)) (Nat.le_of_ble_eq_true rfl) ?_
  intro p e s m below meth c A X E hI ls hl
  obtain ⟨hx, hb, hml, hown, hts, hr, hlk⟩ := id X
  have hl : lv_has ls 4 [(0, .ref a0), (1, .int l1), (2, .int l2), (3, .int l3)] := hl
  unfold f_X3_addSeen at hf
  refine lv_aload_n (pc := 0) hx hb dX3_addSeen_0 rfl (lv_at hl 0 rfl) ?_
  refine x_get (pc := 1) X E hI inX3 0 rfl rfl 6 (by decide) tw_1_46 rfl dX3_addSeen_1 ?_
  refine lv_iconst (pc := 4) (v := 5) hx hb dX3_addSeen_4 (by decide) ?_
  refine lv_icmp_lt (pc := 5) (tgt := 10) hx hb dX3_addSeen_5 (by decide) (fun c1 => ?_) (fun c1 => ?_)
  · have hf := q_ip c1 hf
    refine lv_aload_n (pc := 10) hx hb dX3_addSeen_10 rfl (lv_at hl 0 rfl) ?_
    refine x_get (pc := 11) X E hI inX3 0 rfl rfl 7 (by decide) tw_1_48 rfl dX3_addSeen_11 ?_
    refine lv_aload_n (pc := 14) hx hb dX3_addSeen_14 rfl (lv_at hl 0 rfl) ?_
    refine x_get (pc := 15) X E hI inX3 0 rfl rfl 6 (by decide) tw_1_46 rfl dX3_addSeen_15 ?_
    refine lv_iload_n (pc := 18) hx hb dX3_addSeen_18 rfl (lv_at hl 1 rfl) ?_
    obtain ⟨t2, e2, hf⟩ := q_ob hf
    refine x_iast (pc := 19) (w' := (fw G a0 a1 a2 a3 a4 a5 a6 a7 a8 a9 f_places f_kinds f_weights f_howManyGenerators f_generators f_racks f_howManySeen t2 f_seenSecond f_seenIs f_seenPlaces f_howManyEvents f_eventWhat f_eventNumber)) X E hI 4 rfl e2 rfl dX3_addSeen_19 (fun H locs hI => ?_)
    refine lv_aload_n (pc := 20) hx hb dX3_addSeen_20 rfl (lv_at hl 0 rfl) ?_
    refine x_get (pc := 21) X E hI inX3 0 rfl rfl 8 (by decide) tw_1_50 rfl dX3_addSeen_21 ?_
    refine lv_aload_n (pc := 24) hx hb dX3_addSeen_24 rfl (lv_at hl 0 rfl) ?_
    refine x_get (pc := 25) X E hI inX3 0 rfl rfl 6 (by decide) tw_1_46 rfl dX3_addSeen_25 ?_
    refine lv_iload_n (pc := 28) hx hb dX3_addSeen_28 rfl (lv_at hl 2 rfl) ?_
    obtain ⟨t3, e3, hf⟩ := q_ob hf
    refine x_iast (pc := 29) (w' := (fw G a0 a1 a2 a3 a4 a5 a6 a7 a8 a9 f_places f_kinds f_weights f_howManyGenerators f_generators f_racks f_howManySeen t2 t3 f_seenIs f_seenPlaces f_howManyEvents f_eventWhat f_eventNumber)) X E hI 5 rfl e3 rfl dX3_addSeen_29 (fun H locs hI => ?_)
    refine lv_aload_n (pc := 30) hx hb dX3_addSeen_30 rfl (lv_at hl 0 rfl) ?_
    refine x_get (pc := 31) X E hI inX3 0 rfl rfl 9 (by decide) tw_1_52 rfl dX3_addSeen_31 ?_
    refine lv_aload_n (pc := 34) hx hb dX3_addSeen_34 rfl (lv_at hl 0 rfl) ?_
    refine x_get (pc := 35) X E hI inX3 0 rfl rfl 6 (by decide) tw_1_46 rfl dX3_addSeen_35 ?_
    refine lv_iload_n (pc := 38) hx hb dX3_addSeen_38 rfl (lv_at hl 3 rfl) ?_
    obtain ⟨t4, e4, hf⟩ := q_ob hf
    refine x_iast (pc := 39) (w' := (fw G a0 a1 a2 a3 a4 a5 a6 a7 a8 a9 f_places f_kinds f_weights f_howManyGenerators f_generators f_racks f_howManySeen t2 t3 t4 f_seenPlaces f_howManyEvents f_eventWhat f_eventNumber)) X E hI 6 rfl e4 rfl dX3_addSeen_39 (fun H locs hI => ?_)
    refine lv_aload_n (pc := 40) hx hb dX3_addSeen_40 rfl (lv_at hl 0 rfl) ?_
    refine x_get (pc := 41) X E hI inX3 0 rfl rfl 10 (by decide) tw_1_54 rfl dX3_addSeen_41 ?_
    refine lv_aload_n (pc := 44) hx hb dX3_addSeen_44 rfl (lv_at hl 0 rfl) ?_
    refine x_get (pc := 45) X E hI inX3 0 rfl rfl 6 (by decide) tw_1_46 rfl dX3_addSeen_45 ?_
    refine lv_aload_n (pc := 48) hx hb dX3_addSeen_48 rfl (lv_at hl 0 rfl) ?_
    refine x_get (pc := 49) X E hI inX3 0 rfl rfl 0 (by decide) tw_1_34 rfl dX3_addSeen_49 ?_
    obtain ⟨t5, e5, hf⟩ := q_ob hf
    refine x_iast (pc := 52) (w' := (fw G a0 a1 a2 a3 a4 a5 a6 a7 a8 a9 f_places f_kinds f_weights f_howManyGenerators f_generators f_racks f_howManySeen t2 t3 t4 t5 f_howManyEvents f_eventWhat f_eventNumber)) X E hI 7 rfl e5 rfl dX3_addSeen_52 (fun H locs hI => ?_)
    refine lv_aload_n (pc := 53) hx hb dX3_addSeen_53 rfl (lv_at hl 0 rfl) ?_
    refine lv_dup (pc := 54) hx hb dX3_addSeen_54 rfl ?_
    refine x_get (pc := 55) X E hI inX3 0 rfl rfl 6 (by decide) tw_1_46 rfl dX3_addSeen_55 ?_
    refine lv_iconst (pc := 58) (v := 1) hx hb dX3_addSeen_58 (by decide) ?_
    refine lv_iadd (pc := 59) hx hb dX3_addSeen_59 ?_
    refine x_put (pc := 60) (w' := (fw G a0 a1 a2 a3 a4 a5 a6 a7 a8 a9 f_places f_kinds f_weights f_howManyGenerators f_generators f_racks (f_howManySeen + 1) t2 t3 t4 t5 f_howManyEvents f_eventWhat f_eventNumber)) X E hI inX3 tyX3 tyX3_ok nmX3 0 rfl rfl 6 (by decide) tw_1_46 rfl rfl rfl (Nat.le_of_ble_eq_true rfl) rfl dX3_addSeen_60 (fun H locs hI => ?_)
    refine lv_iconst (pc := 63) (v := 1) hx hb dX3_addSeen_63 (by decide) ?_
    obtain rfl := Option.some.inj hf
    exact x_zret X hI (Or.inr rfl) dX3_addSeen_64
  · have hf := q_in c1 hf
    refine lv_iconst (pc := 8) (v := 0) hx hb dX3_addSeen_8 (by decide) ?_
    obtain rfl := Option.some.inj hf
    exact x_zret X hI (Or.inl rfl) dX3_addSeen_9

abbrev rm_X3_allSeenCount : Room := { frames := 2, cells := 0, slots := 0, locals := 44 }
set_option maxHeartbeats 4000000 in
set_option maxRecDepth 100000 in
theorem k_X3_allSeenCount_L2 {p : Program} {l : Launch} {e : Env} {s : State} {m : MethodId} {args : Array Value} {below : List Frame} {meth : Method} {c : Code} {A : Nat → Prop} {G : GX} {a0 : Nat} {a1 : Nat} {a2 : Nat} {a3 : Nat} {a4 : Nat} {a5 : Nat} {a6 : Nat} {a7 : Nat} {a8 : Nat} {a9 : Nat} {f_places : Int32} {f_kinds : Int32} {f_weights : Nat → Int32} {f_howManyGenerators : Int32} {f_generators : Nat → Int32} {f_racks : Nat → Int32} {f_howManySeen : Int32} {f_seenFirst : Nat → Int32} {f_seenSecond : Nat → Int32} {f_seenIs : Nat → Int32} {f_seenPlaces : Nat → Int32} {f_howManyEvents : Int32} {f_eventWhat : Nat → Int32} {f_eventNumber : Nat → Int32} {K : Int32 → Option (Int32)} {res : Int32} (X : CX RX3 cX3_allSeenCount 2 (some .boolean) p s m args meth c) (E : EX G A s)
    (hK : ∀ (l1 : Int32) (H : Heap) (locs : List Loc) (ls : Array Slot), IN A G (fw G a0 a1 a2 a3 a4 a5 a6 a7 a8 a9 f_places f_kinds f_weights f_howManyGenerators f_generators f_racks f_howManySeen f_seenFirst f_seenSecond f_seenIs f_seenPlaces f_howManyEvents f_eventWhat f_eventNumber) s H locs → lv_has ls 2 [(0, .ref a0), (1, .int l1)] → K l1 = some res → W p l e rm_X3_allSeenCount s m args below meth c H locs 0 0 (MQ below (QX G A (fw G a0 a1 a2 a3 a4 a5 a6 a7 a8 a9 f_places f_kinds f_weights f_howManyGenerators f_generators f_racks f_howManySeen f_seenFirst f_seenSecond f_seenIs f_seenPlaces f_howManyEvents f_eventWhat f_eventNumber) (some (.int res))) args s 0 0 A) (F0 m 71 ls [])) :
    ∀ {k : Nat} {l1 : Int32} {H : Heap} {locs : List Loc} {ls : Array Slot}, IN A G (fw G a0 a1 a2 a3 a4 a5 a6 a7 a8 a9 f_places f_kinds f_weights f_howManyGenerators f_generators f_racks f_howManySeen f_seenFirst f_seenSecond f_seenIs f_seenPlaces f_howManyEvents f_eventWhat f_eventNumber) s H locs → lv_has ls 2 [(0, .ref a0), (1, .int l1)] → f_X3_allSeenCount_L2 f_places f_kinds f_howManySeen f_seenFirst f_seenSecond f_seenPlaces K k l1 = some res → W p l e rm_X3_allSeenCount s m args below meth c H locs 0 0 (MQ below (QX G A (fw G a0 a1 a2 a3 a4 a5 a6 a7 a8 a9 f_places f_kinds f_weights f_howManyGenerators f_generators f_racks f_howManySeen f_seenFirst f_seenSecond f_seenIs f_seenPlaces f_howManyEvents f_eventWhat f_eventNumber) (some (.int res))) args s 0 0 A) (F0 m 2 ls []) := by
  obtain ⟨hx, hb, hml, hown, hts, hr, hlk⟩ := id X
  intro k
  induction k with
  | zero => intro l1 H locs ls hI hl hf; exact nomatch (show none = some res from hf)
  | succ k ih =>
    intro l1 H locs ls hI hl hf
    rw [f_X3_allSeenCount_L2] at hf
    refine lv_iload_n (pc := 2) hx hb dX3_allSeenCount_2 rfl (lv_at hl 1 rfl) ?_
    refine lv_aload_n (pc := 3) hx hb dX3_allSeenCount_3 rfl (lv_at hl 0 rfl) ?_
    refine x_get (pc := 4) X E hI inX3 0 rfl rfl 6 (by decide) tw_1_46 rfl dX3_allSeenCount_4 ?_
    refine lv_icmp_ge (pc := 7) (tgt := 71) hx hb dX3_allSeenCount_7 (by decide) (fun c1 => ?_) (fun c1 => ?_)
    · have hf := q_ip c1 hf
      exact hK _ _ _ _ hI (lv_sub hl [0, 1] rfl) hf
    · have hf := q_in c1 hf
      refine lv_aload_n (pc := 10) hx hb dX3_allSeenCount_10 rfl (lv_at hl 0 rfl) ?_
      refine x_get (pc := 11) X E hI inX3 0 rfl rfl 10 (by decide) tw_1_54 rfl dX3_allSeenCount_11 ?_
      refine lv_iload_n (pc := 14) hx hb dX3_allSeenCount_14 rfl (lv_at hl 1 rfl) ?_
      obtain ⟨t2, e2, hf⟩ := q_ob hf
      refine x_iald (pc := 15) X E hI 7 rfl e2 dX3_allSeenCount_15 ?_
      refine lv_aload_n (pc := 16) hx hb dX3_allSeenCount_16 rfl (lv_at hl 0 rfl) ?_
      refine x_get (pc := 17) X E hI inX3 0 rfl rfl 0 (by decide) tw_1_34 rfl dX3_allSeenCount_17 ?_
      refine lv_icmp_ne (pc := 20) (tgt := 63) hx hb dX3_allSeenCount_20 (by decide) (fun c3 => ?_) (fun c3 => ?_)
      · have hf := q_in c3 hf
        refine lv_iconst (pc := 63) (v := 0) hx hb dX3_allSeenCount_63 (by decide) ?_
        obtain rfl := Option.some.inj hf
        exact x_zret X hI (Or.inl rfl) dX3_allSeenCount_64
      · have hf := q_ip c3 hf
        refine lv_aload_n (pc := 23) hx hb dX3_allSeenCount_23 rfl (lv_at hl 0 rfl) ?_
        refine x_get (pc := 24) X E hI inX3 0 rfl rfl 7 (by decide) tw_1_48 rfl dX3_allSeenCount_24 ?_
        refine lv_iload_n (pc := 27) hx hb dX3_allSeenCount_27 rfl (lv_at hl 1 rfl) ?_
        obtain ⟨t4, e4, hf⟩ := q_ob hf
        refine x_iald (pc := 28) X E hI 4 rfl e4 dX3_allSeenCount_28 ?_
        refine lv_aload_n (pc := 29) hx hb dX3_allSeenCount_29 rfl (lv_at hl 0 rfl) ?_
        refine x_get (pc := 30) X E hI inX3 0 rfl rfl 0 (by decide) tw_1_34 rfl dX3_allSeenCount_30 ?_
        refine lv_aload_n (pc := 33) hx hb dX3_allSeenCount_33 rfl (lv_at hl 0 rfl) ?_
        refine x_get (pc := 34) X E hI inX3 0 rfl rfl 1 (by decide) tw_1_36 rfl dX3_allSeenCount_34 ?_
        obtain ⟨t5, e5, hf⟩ := q_ob hf
        refine x_cSn (pc := 37) (st1 := [.int t5]) X E hI (c_X2_isOfKinds l G e5) ks_X3_61 hd_X2_isOfKinds ⟨rfl, rfl⟩ (by decide) rfl hl.1 rfl (Nat.le_of_ble_eq_true rfl) dX3_allSeenCount_37 ⟨Nat.le_of_ble_eq_true rfl, Nat.le_of_ble_eq_true rfl⟩ rfl (fun H locs hI => ?_)
        refine lv_if_eq (pc := 40) (tgt := 63) hx hb dX3_allSeenCount_40 (by decide) (fun c6 => ?_) (fun c6 => ?_)
        · have hf := q_ip c6 hf
          refine lv_iconst (pc := 63) (v := 0) hx hb dX3_allSeenCount_63 (by decide) ?_
          obtain rfl := Option.some.inj hf
          exact x_zret X hI (Or.inl rfl) dX3_allSeenCount_64
        · have hf := q_in c6 hf
          refine lv_aload_n (pc := 43) hx hb dX3_allSeenCount_43 rfl (lv_at hl 0 rfl) ?_
          refine x_get (pc := 44) X E hI inX3 0 rfl rfl 8 (by decide) tw_1_50 rfl dX3_allSeenCount_44 ?_
          refine lv_iload_n (pc := 47) hx hb dX3_allSeenCount_47 rfl (lv_at hl 1 rfl) ?_
          obtain ⟨t7, e7, hf⟩ := q_ob hf
          refine x_iald (pc := 48) X E hI 5 rfl e7 dX3_allSeenCount_48 ?_
          refine lv_aload_n (pc := 49) hx hb dX3_allSeenCount_49 rfl (lv_at hl 0 rfl) ?_
          refine x_get (pc := 50) X E hI inX3 0 rfl rfl 0 (by decide) tw_1_34 rfl dX3_allSeenCount_50 ?_
          refine lv_aload_n (pc := 53) hx hb dX3_allSeenCount_53 rfl (lv_at hl 0 rfl) ?_
          refine x_get (pc := 54) X E hI inX3 0 rfl rfl 1 (by decide) tw_1_36 rfl dX3_allSeenCount_54 ?_
          obtain ⟨t8, e8, hf⟩ := q_ob hf
          refine x_cSn (pc := 57) (st1 := [.int t8]) X E hI (c_X2_isOfKinds l G e8) ks_X3_61 hd_X2_isOfKinds ⟨rfl, rfl⟩ (by decide) rfl hl.1 rfl (Nat.le_of_ble_eq_true rfl) dX3_allSeenCount_57 ⟨Nat.le_of_ble_eq_true rfl, Nat.le_of_ble_eq_true rfl⟩ rfl (fun H locs hI => ?_)
          refine lv_if_ne (pc := 60) (tgt := 65) hx hb dX3_allSeenCount_60 (by decide) (fun c9 => ?_) (fun c9 => ?_)
          · have hf := q_in c9 hf
            refine lv_iinc (pc := 65) (v := l1 + 1) (lv' := [(1, .int (l1 + 1)), (0, .ref a0)]) hx hb dX3_allSeenCount_65 hl (k := 1) rfl rfl (by decide) rfl (fun ls hl => ?_)
            refine lv_goto (pc := 68) (tgt := 2) hx hb dX3_allSeenCount_68 (by decide) ?_
            exact ih hI (lv_sub hl [1, 0] rfl) hf
          · have hf := q_ip c9 hf
            refine lv_iconst (pc := 63) (v := 0) hx hb dX3_allSeenCount_63 (by decide) ?_
            obtain rfl := Option.some.inj hf
            exact x_zret X hI (Or.inl rfl) dX3_allSeenCount_64

set_option maxHeartbeats 4000000 in
set_option maxRecDepth 100000 in
theorem c_X3_allSeenCount (l : Launch) (G : GX) (a0 : Nat) (a1 : Nat) (a2 : Nat) (a3 : Nat) (a4 : Nat) (a5 : Nat) (a6 : Nat) (a7 : Nat) (a8 : Nat) (a9 : Nat) {f_places : Int32} {f_kinds : Int32} {f_howManySeen : Int32} {f_seenFirst : Nat → Int32} {f_seenSecond : Nat → Int32} {f_seenPlaces : Nat → Int32} {f_weights : Nat → Int32} {f_howManyGenerators : Int32} {f_generators : Nat → Int32} {f_racks : Nat → Int32} {f_seenIs : Nat → Int32} {f_howManyEvents : Int32} {f_eventWhat : Nat → Int32} {f_eventNumber : Nat → Int32} {res : Int32} (hf : f_X3_allSeenCount f_places f_kinds f_howManySeen f_seenFirst f_seenSecond f_seenPlaces = some res) : MX l yX3_allSeenCount cX3_allSeenCount 2 (some .boolean) rm_X3_allSeenCount G (fw G a0 a1 a2 a3 a4 a5 a6 a7 a8 a9 f_places f_kinds f_weights f_howManyGenerators f_generators f_racks f_howManySeen f_seenFirst f_seenSecond f_seenIs f_seenPlaces f_howManyEvents f_eventWhat f_eventNumber) [.ref (a0)] (fw G a0 a1 a2 a3 a4 a5 a6 a7 a8 a9 f_places f_kinds f_weights f_howManyGenerators f_generators f_racks f_howManySeen f_seenFirst f_seenSecond f_seenIs f_seenPlaces f_howManyEvents f_eventWhat f_eventNumber) (some (.int res)) 0 0 := by
  refine MX.of (plainFor_of_name (by decide)) (Nat.le_of_ble_eq_true rfl) ?_
  intro p e s m below meth c A X E hI ls hl
  obtain ⟨hx, hb, hml, hown, hts, hr, hlk⟩ := id X
  have hl : lv_has ls 2 [(0, .ref a0)] := hl
  unfold f_X3_allSeenCount at hf
  refine lv_iconst (pc := 0) (v := 0) hx hb dX3_allSeenCount_0 (by decide) ?_
  refine lv_istore_n (pc := 1) (lv' := [(1, .int 0), (0, .ref a0)]) hx hb dX3_allSeenCount_1 rfl hl (by decide) rfl (fun ls hl => ?_)
  refine k_X3_allSeenCount_L2 X E (fun l1_1 H locs ls hI hl hf => ?_) hI (lv_sub hl [1, 0] rfl) hf
  refine lv_iconst (pc := 71) (v := 1) hx hb dX3_allSeenCount_71 (by decide) ?_
  obtain rfl := Option.some.inj hf
  exact x_zret X hI (Or.inr rfl) dX3_allSeenCount_72

abbrev rm_X3_addEvent : Room := { frames := 0, cells := 0, slots := 0, locals := 0 }
set_option maxHeartbeats 4000000 in
set_option maxRecDepth 100000 in
theorem c_X3_addEvent (l : Launch) (G : GX) (a0 : Nat) (a1 : Nat) (a2 : Nat) (a3 : Nat) (a4 : Nat) (a5 : Nat) (a6 : Nat) (a7 : Nat) (a8 : Nat) (a9 : Nat) {l1 : Int32} {l2 : Int32} {f_howManyEvents : Int32} {f_eventWhat : Nat → Int32} {f_eventNumber : Nat → Int32} {f_places : Int32} {f_kinds : Int32} {f_weights : Nat → Int32} {f_howManyGenerators : Int32} {f_generators : Nat → Int32} {f_racks : Nat → Int32} {f_howManySeen : Int32} {f_seenFirst : Nat → Int32} {f_seenSecond : Nat → Int32} {f_seenIs : Nat → Int32} {f_seenPlaces : Nat → Int32} {res : Int32 × Int32 × (Nat → Int32) × (Nat → Int32)} (hf : f_X3_addEvent l1 l2 f_howManyEvents f_eventWhat f_eventNumber = some res) : MX l yX3_addEvent cX3_addEvent 3 (some .boolean) rm_X3_addEvent G (fw G a0 a1 a2 a3 a4 a5 a6 a7 a8 a9 f_places f_kinds f_weights f_howManyGenerators f_generators f_racks f_howManySeen f_seenFirst f_seenSecond f_seenIs f_seenPlaces f_howManyEvents f_eventWhat f_eventNumber) [.ref (a0), .int l1, .int l2] (fw G a0 a1 a2 a3 a4 a5 a6 a7 a8 a9 f_places f_kinds f_weights f_howManyGenerators f_generators f_racks f_howManySeen f_seenFirst f_seenSecond f_seenIs f_seenPlaces res.2.1 res.2.2.1 res.2.2.2) (some (.int res.1)) 0 0 := by
  refine MX.of (plainFor_of_name (by decide)) (Nat.le_of_ble_eq_true rfl) ?_
  intro p e s m below meth c A X E hI ls hl
  obtain ⟨hx, hb, hml, hown, hts, hr, hlk⟩ := id X
  have hl : lv_has ls 3 [(0, .ref a0), (1, .int l1), (2, .int l2)] := hl
  unfold f_X3_addEvent at hf
  refine lv_aload_n (pc := 0) hx hb dX3_addEvent_0 rfl (lv_at hl 0 rfl) ?_
  refine x_get (pc := 1) X E hI inX3 0 rfl rfl 11 (by decide) tw_1_55 rfl dX3_addEvent_1 ?_
  refine lv_bipush (pc := 4) (v := 8) hx hb dX3_addEvent_4 (by decide) ?_
  refine lv_icmp_lt (pc := 6) (tgt := 11) hx hb dX3_addEvent_6 (by decide) (fun c1 => ?_) (fun c1 => ?_)
  · have hf := q_ip c1 hf
    refine lv_aload_n (pc := 11) hx hb dX3_addEvent_11 rfl (lv_at hl 0 rfl) ?_
    refine x_get (pc := 12) X E hI inX3 0 rfl rfl 12 (by decide) tw_1_57 rfl dX3_addEvent_12 ?_
    refine lv_aload_n (pc := 15) hx hb dX3_addEvent_15 rfl (lv_at hl 0 rfl) ?_
    refine x_get (pc := 16) X E hI inX3 0 rfl rfl 11 (by decide) tw_1_55 rfl dX3_addEvent_16 ?_
    refine lv_iload_n (pc := 19) hx hb dX3_addEvent_19 rfl (lv_at hl 1 rfl) ?_
    obtain ⟨t2, e2, hf⟩ := q_ob hf
    refine x_iast (pc := 20) (w' := (fw G a0 a1 a2 a3 a4 a5 a6 a7 a8 a9 f_places f_kinds f_weights f_howManyGenerators f_generators f_racks f_howManySeen f_seenFirst f_seenSecond f_seenIs f_seenPlaces f_howManyEvents t2 f_eventNumber)) X E hI 8 rfl e2 rfl dX3_addEvent_20 (fun H locs hI => ?_)
    refine lv_aload_n (pc := 21) hx hb dX3_addEvent_21 rfl (lv_at hl 0 rfl) ?_
    refine x_get (pc := 22) X E hI inX3 0 rfl rfl 13 (by decide) tw_1_59 rfl dX3_addEvent_22 ?_
    refine lv_aload_n (pc := 25) hx hb dX3_addEvent_25 rfl (lv_at hl 0 rfl) ?_
    refine x_get (pc := 26) X E hI inX3 0 rfl rfl 11 (by decide) tw_1_55 rfl dX3_addEvent_26 ?_
    refine lv_iload_n (pc := 29) hx hb dX3_addEvent_29 rfl (lv_at hl 2 rfl) ?_
    obtain ⟨t3, e3, hf⟩ := q_ob hf
    refine x_iast (pc := 30) (w' := (fw G a0 a1 a2 a3 a4 a5 a6 a7 a8 a9 f_places f_kinds f_weights f_howManyGenerators f_generators f_racks f_howManySeen f_seenFirst f_seenSecond f_seenIs f_seenPlaces f_howManyEvents t2 t3)) X E hI 9 rfl e3 rfl dX3_addEvent_30 (fun H locs hI => ?_)
    refine lv_aload_n (pc := 31) hx hb dX3_addEvent_31 rfl (lv_at hl 0 rfl) ?_
    refine lv_dup (pc := 32) hx hb dX3_addEvent_32 rfl ?_
    refine x_get (pc := 33) X E hI inX3 0 rfl rfl 11 (by decide) tw_1_55 rfl dX3_addEvent_33 ?_
    refine lv_iconst (pc := 36) (v := 1) hx hb dX3_addEvent_36 (by decide) ?_
    refine lv_iadd (pc := 37) hx hb dX3_addEvent_37 ?_
    refine x_put (pc := 38) (w' := (fw G a0 a1 a2 a3 a4 a5 a6 a7 a8 a9 f_places f_kinds f_weights f_howManyGenerators f_generators f_racks f_howManySeen f_seenFirst f_seenSecond f_seenIs f_seenPlaces (f_howManyEvents + 1) t2 t3)) X E hI inX3 tyX3 tyX3_ok nmX3 0 rfl rfl 11 (by decide) tw_1_55 rfl rfl rfl (Nat.le_of_ble_eq_true rfl) rfl dX3_addEvent_38 (fun H locs hI => ?_)
    refine lv_iconst (pc := 41) (v := 1) hx hb dX3_addEvent_41 (by decide) ?_
    obtain rfl := Option.some.inj hf
    exact x_zret X hI (Or.inr rfl) dX3_addEvent_42
  · have hf := q_in c1 hf
    refine lv_iconst (pc := 9) (v := 0) hx hb dX3_addEvent_9 (by decide) ?_
    obtain rfl := Option.some.inj hf
    exact x_zret X hI (Or.inl rfl) dX3_addEvent_10

abbrev rm_X3_become : Room := { frames := 1, cells := 0, slots := 0, locals := 40 }
set_option maxHeartbeats 4000000 in
set_option maxRecDepth 100000 in
theorem c_X3_become (l : Launch) (G : GX) (a0 : Nat) (a1 : Nat) (a2 : Nat) (a3 : Nat) (a4 : Nat) (a5 : Nat) (a6 : Nat) (a7 : Nat) (a8 : Nat) (a9 : Nat) (d0 : Nat) (d1 : Nat) (d2 : Nat) (d3 : Nat) (d4 : Nat) (d5 : Nat) (d6 : Nat) (d7 : Nat) (d8 : Nat) (d9 : Nat) {f_places : Int32} {f_kinds : Int32} {f_weights : Nat → Int32} {f_howManyGenerators : Int32} {f_generators : Nat → Int32} {f_racks : Nat → Int32} {f_howManySeen : Int32} {f_seenFirst : Nat → Int32} {f_seenSecond : Nat → Int32} {f_seenIs : Nat → Int32} {f_seenPlaces : Nat → Int32} {f_howManyEvents : Int32} {f_eventWhat : Nat → Int32} {f_eventNumber : Nat → Int32} {g_places : Int32} {g_kinds : Int32} {g_weights : Nat → Int32} {g_howManyGenerators : Int32} {g_generators : Nat → Int32} {g_racks : Nat → Int32} {g_howManySeen : Int32} {g_seenFirst : Nat → Int32} {g_seenSecond : Nat → Int32} {g_seenIs : Nat → Int32} {g_seenPlaces : Nat → Int32} {g_howManyEvents : Int32} {g_eventWhat : Nat → Int32} {g_eventNumber : Nat → Int32} {res : Int32 × Int32 × (Nat → Int32) × Int32 × (Nat → Int32) × (Nat → Int32) × Int32 × (Nat → Int32) × (Nat → Int32) × (Nat → Int32) × (Nat → Int32) × Int32 × (Nat → Int32) × (Nat → Int32)} (hf : f_X3_become f_places f_kinds f_weights f_howManyGenerators f_generators f_racks f_howManySeen f_seenFirst f_seenSecond f_seenIs f_seenPlaces f_howManyEvents f_eventWhat f_eventNumber g_places g_kinds g_weights g_howManyGenerators g_generators g_racks g_howManySeen g_seenFirst g_seenSecond g_seenIs g_seenPlaces g_howManyEvents g_eventWhat g_eventNumber = some res) : MX l yX3_become cX3_become 2 none rm_X3_become G (ffw G a0 a1 a2 a3 a4 a5 a6 a7 a8 a9 d0 d1 d2 d3 d4 d5 d6 d7 d8 d9 f_places f_kinds f_weights f_howManyGenerators f_generators f_racks f_howManySeen f_seenFirst f_seenSecond f_seenIs f_seenPlaces f_howManyEvents f_eventWhat f_eventNumber g_places g_kinds g_weights g_howManyGenerators g_generators g_racks g_howManySeen g_seenFirst g_seenSecond g_seenIs g_seenPlaces g_howManyEvents g_eventWhat g_eventNumber) [.ref (a0), .ref (d0)] (ffw G a0 a1 a2 a3 a4 a5 a6 a7 a8 a9 d0 d1 d2 d3 d4 d5 d6 d7 d8 d9 res.1 res.2.1 res.2.2.1 res.2.2.2.1 res.2.2.2.2.1 res.2.2.2.2.2.1 res.2.2.2.2.2.2.1 res.2.2.2.2.2.2.2.1 res.2.2.2.2.2.2.2.2.1 res.2.2.2.2.2.2.2.2.2.1 res.2.2.2.2.2.2.2.2.2.2.1 res.2.2.2.2.2.2.2.2.2.2.2.1 res.2.2.2.2.2.2.2.2.2.2.2.2.1 res.2.2.2.2.2.2.2.2.2.2.2.2.2 g_places g_kinds g_weights g_howManyGenerators g_generators g_racks g_howManySeen g_seenFirst g_seenSecond g_seenIs g_seenPlaces g_howManyEvents g_eventWhat g_eventNumber) none 0 0 := by
  refine MX.of (plainFor_of_name (by decide)) (Nat.le_of_ble_eq_true rfl) ?_
  intro p e s m below meth c A X E hI ls hl
  obtain ⟨hx, hb, hml, hown, hts, hr, hlk⟩ := id X
  have hl : lv_has ls 2 [(0, .ref a0), (1, .ref d0)] := hl
  unfold f_X3_become at hf
  refine lv_aload_n (pc := 0) hx hb dX3_become_0 rfl (lv_at hl 0 rfl) ?_
  refine lv_aload_n (pc := 1) hx hb dX3_become_1 rfl (lv_at hl 1 rfl) ?_
  refine x_get (pc := 2) X E hI inX3 10 rfl rfl 0 (by decide) tw_1_34 rfl dX3_become_2 ?_
  refine x_put (pc := 5) (w' := (ffw G a0 a1 a2 a3 a4 a5 a6 a7 a8 a9 d0 d1 d2 d3 d4 d5 d6 d7 d8 d9 g_places f_kinds f_weights f_howManyGenerators f_generators f_racks f_howManySeen f_seenFirst f_seenSecond f_seenIs f_seenPlaces f_howManyEvents f_eventWhat f_eventNumber g_places g_kinds g_weights g_howManyGenerators g_generators g_racks g_howManySeen g_seenFirst g_seenSecond g_seenIs g_seenPlaces g_howManyEvents g_eventWhat g_eventNumber)) X E hI inX3 tyX3 tyX3_ok nmX3 0 rfl rfl 0 (by decide) tw_1_34 rfl rfl rfl (Nat.le_of_ble_eq_true rfl) rfl dX3_become_5 (fun H locs hI => ?_)
  refine lv_aload_n (pc := 8) hx hb dX3_become_8 rfl (lv_at hl 0 rfl) ?_
  refine lv_aload_n (pc := 9) hx hb dX3_become_9 rfl (lv_at hl 1 rfl) ?_
  refine x_get (pc := 10) X E hI inX3 10 rfl rfl 1 (by decide) tw_1_36 rfl dX3_become_10 ?_
  refine x_put (pc := 13) (w' := (ffw G a0 a1 a2 a3 a4 a5 a6 a7 a8 a9 d0 d1 d2 d3 d4 d5 d6 d7 d8 d9 g_places g_kinds f_weights f_howManyGenerators f_generators f_racks f_howManySeen f_seenFirst f_seenSecond f_seenIs f_seenPlaces f_howManyEvents f_eventWhat f_eventNumber g_places g_kinds g_weights g_howManyGenerators g_generators g_racks g_howManySeen g_seenFirst g_seenSecond g_seenIs g_seenPlaces g_howManyEvents g_eventWhat g_eventNumber)) X E hI inX3 tyX3 tyX3_ok nmX3 0 rfl rfl 1 (by decide) tw_1_36 rfl rfl rfl (Nat.le_of_ble_eq_true rfl) rfl dX3_become_13 (fun H locs hI => ?_)
  refine lv_aload_n (pc := 16) hx hb dX3_become_16 rfl (lv_at hl 1 rfl) ?_
  refine x_get (pc := 17) X E hI inX3 10 rfl rfl 2 (by decide) tw_1_38 rfl dX3_become_17 ?_
  refine lv_iconst (pc := 20) (v := 0) hx hb dX3_become_20 (by decide) ?_
  refine lv_aload_n (pc := 21) hx hb dX3_become_21 rfl (lv_at hl 0 rfl) ?_
  refine x_get (pc := 22) X E hI inX3 0 rfl rfl 2 (by decide) tw_1_38 rfl dX3_become_22 ?_
  refine lv_iconst (pc := 25) (v := 0) hx hb dX3_become_25 (by decide) ?_
  refine lv_iconst (pc := 26) (v := 4) hx hb dX3_become_26 (by decide) ?_
  obtain ⟨t1, e1, hf⟩ := q_ob hf
  refine x_copyi (pc := 27) (w' := (ffw G a0 a1 a2 a3 a4 a5 a6 a7 a8 a9 d0 d1 d2 d3 d4 d5 d6 d7 d8 d9 g_places g_kinds t1 f_howManyGenerators f_generators f_racks f_howManySeen f_seenFirst f_seenSecond f_seenIs f_seenPlaces f_howManyEvents f_eventWhat f_eventNumber g_places g_kinds g_weights g_howManyGenerators g_generators g_racks g_howManySeen g_seenFirst g_seenSecond g_seenIs g_seenPlaces g_howManyEvents g_eventWhat g_eventNumber)) X E hI tw_3_182 11 1 rfl rfl e1 rfl (by decide) (Nat.le_of_ble_eq_true rfl) hl.1 dX3_become_27 (fun H locs hI => ?_)
  refine lv_aload_n (pc := 30) hx hb dX3_become_30 rfl (lv_at hl 0 rfl) ?_
  refine lv_aload_n (pc := 31) hx hb dX3_become_31 rfl (lv_at hl 1 rfl) ?_
  refine x_get (pc := 32) X E hI inX3 10 rfl rfl 3 (by decide) tw_1_41 rfl dX3_become_32 ?_
  refine x_put (pc := 35) (w' := (ffw G a0 a1 a2 a3 a4 a5 a6 a7 a8 a9 d0 d1 d2 d3 d4 d5 d6 d7 d8 d9 g_places g_kinds t1 g_howManyGenerators f_generators f_racks f_howManySeen f_seenFirst f_seenSecond f_seenIs f_seenPlaces f_howManyEvents f_eventWhat f_eventNumber g_places g_kinds g_weights g_howManyGenerators g_generators g_racks g_howManySeen g_seenFirst g_seenSecond g_seenIs g_seenPlaces g_howManyEvents g_eventWhat g_eventNumber)) X E hI inX3 tyX3 tyX3_ok nmX3 0 rfl rfl 3 (by decide) tw_1_41 rfl rfl rfl (Nat.le_of_ble_eq_true rfl) rfl dX3_become_35 (fun H locs hI => ?_)
  refine lv_aload_n (pc := 38) hx hb dX3_become_38 rfl (lv_at hl 1 rfl) ?_
  refine x_get (pc := 39) X E hI inX3 10 rfl rfl 4 (by decide) tw_1_42 rfl dX3_become_39 ?_
  refine lv_iconst (pc := 42) (v := 0) hx hb dX3_become_42 (by decide) ?_
  refine lv_aload_n (pc := 43) hx hb dX3_become_43 rfl (lv_at hl 0 rfl) ?_
  refine x_get (pc := 44) X E hI inX3 0 rfl rfl 4 (by decide) tw_1_42 rfl dX3_become_44 ?_
  refine lv_iconst (pc := 47) (v := 0) hx hb dX3_become_47 (by decide) ?_
  refine lv_iconst (pc := 48) (v := 4) hx hb dX3_become_48 (by decide) ?_
  obtain ⟨t2, e2, hf⟩ := q_ob hf
  refine x_copyi (pc := 49) (w' := (ffw G a0 a1 a2 a3 a4 a5 a6 a7 a8 a9 d0 d1 d2 d3 d4 d5 d6 d7 d8 d9 g_places g_kinds t1 g_howManyGenerators t2 f_racks f_howManySeen f_seenFirst f_seenSecond f_seenIs f_seenPlaces f_howManyEvents f_eventWhat f_eventNumber g_places g_kinds g_weights g_howManyGenerators g_generators g_racks g_howManySeen g_seenFirst g_seenSecond g_seenIs g_seenPlaces g_howManyEvents g_eventWhat g_eventNumber)) X E hI tw_3_182 12 2 rfl rfl e2 rfl (by decide) (Nat.le_of_ble_eq_true rfl) hl.1 dX3_become_49 (fun H locs hI => ?_)
  refine lv_aload_n (pc := 52) hx hb dX3_become_52 rfl (lv_at hl 1 rfl) ?_
  refine x_get (pc := 53) X E hI inX3 10 rfl rfl 5 (by decide) tw_1_44 rfl dX3_become_53 ?_
  refine lv_iconst (pc := 56) (v := 0) hx hb dX3_become_56 (by decide) ?_
  refine lv_aload_n (pc := 57) hx hb dX3_become_57 rfl (lv_at hl 0 rfl) ?_
  refine x_get (pc := 58) X E hI inX3 0 rfl rfl 5 (by decide) tw_1_44 rfl dX3_become_58 ?_
  refine lv_iconst (pc := 61) (v := 0) hx hb dX3_become_61 (by decide) ?_
  refine lv_bipush (pc := 62) (v := 9) hx hb dX3_become_62 (by decide) ?_
  obtain ⟨t3, e3, hf⟩ := q_ob hf
  refine x_copyi (pc := 64) (w' := (ffw G a0 a1 a2 a3 a4 a5 a6 a7 a8 a9 d0 d1 d2 d3 d4 d5 d6 d7 d8 d9 g_places g_kinds t1 g_howManyGenerators t2 t3 f_howManySeen f_seenFirst f_seenSecond f_seenIs f_seenPlaces f_howManyEvents f_eventWhat f_eventNumber g_places g_kinds g_weights g_howManyGenerators g_generators g_racks g_howManySeen g_seenFirst g_seenSecond g_seenIs g_seenPlaces g_howManyEvents g_eventWhat g_eventNumber)) X E hI tw_3_182 13 3 rfl rfl e3 rfl (by decide) (Nat.le_of_ble_eq_true rfl) hl.1 dX3_become_64 (fun H locs hI => ?_)
  refine lv_aload_n (pc := 67) hx hb dX3_become_67 rfl (lv_at hl 0 rfl) ?_
  refine lv_aload_n (pc := 68) hx hb dX3_become_68 rfl (lv_at hl 1 rfl) ?_
  refine x_get (pc := 69) X E hI inX3 10 rfl rfl 6 (by decide) tw_1_46 rfl dX3_become_69 ?_
  refine x_put (pc := 72) (w' := (ffw G a0 a1 a2 a3 a4 a5 a6 a7 a8 a9 d0 d1 d2 d3 d4 d5 d6 d7 d8 d9 g_places g_kinds t1 g_howManyGenerators t2 t3 g_howManySeen f_seenFirst f_seenSecond f_seenIs f_seenPlaces f_howManyEvents f_eventWhat f_eventNumber g_places g_kinds g_weights g_howManyGenerators g_generators g_racks g_howManySeen g_seenFirst g_seenSecond g_seenIs g_seenPlaces g_howManyEvents g_eventWhat g_eventNumber)) X E hI inX3 tyX3 tyX3_ok nmX3 0 rfl rfl 6 (by decide) tw_1_46 rfl rfl rfl (Nat.le_of_ble_eq_true rfl) rfl dX3_become_72 (fun H locs hI => ?_)
  refine lv_aload_n (pc := 75) hx hb dX3_become_75 rfl (lv_at hl 1 rfl) ?_
  refine x_get (pc := 76) X E hI inX3 10 rfl rfl 7 (by decide) tw_1_48 rfl dX3_become_76 ?_
  refine lv_iconst (pc := 79) (v := 0) hx hb dX3_become_79 (by decide) ?_
  refine lv_aload_n (pc := 80) hx hb dX3_become_80 rfl (lv_at hl 0 rfl) ?_
  refine x_get (pc := 81) X E hI inX3 0 rfl rfl 7 (by decide) tw_1_48 rfl dX3_become_81 ?_
  refine lv_iconst (pc := 84) (v := 0) hx hb dX3_become_84 (by decide) ?_
  refine lv_iconst (pc := 85) (v := 5) hx hb dX3_become_85 (by decide) ?_
  obtain ⟨t4, e4, hf⟩ := q_ob hf
  refine x_copyi (pc := 86) (w' := (ffw G a0 a1 a2 a3 a4 a5 a6 a7 a8 a9 d0 d1 d2 d3 d4 d5 d6 d7 d8 d9 g_places g_kinds t1 g_howManyGenerators t2 t3 g_howManySeen t4 f_seenSecond f_seenIs f_seenPlaces f_howManyEvents f_eventWhat f_eventNumber g_places g_kinds g_weights g_howManyGenerators g_generators g_racks g_howManySeen g_seenFirst g_seenSecond g_seenIs g_seenPlaces g_howManyEvents g_eventWhat g_eventNumber)) X E hI tw_3_182 14 4 rfl rfl e4 rfl (by decide) (Nat.le_of_ble_eq_true rfl) hl.1 dX3_become_86 (fun H locs hI => ?_)
  refine lv_aload_n (pc := 89) hx hb dX3_become_89 rfl (lv_at hl 1 rfl) ?_
  refine x_get (pc := 90) X E hI inX3 10 rfl rfl 8 (by decide) tw_1_50 rfl dX3_become_90 ?_
  refine lv_iconst (pc := 93) (v := 0) hx hb dX3_become_93 (by decide) ?_
  refine lv_aload_n (pc := 94) hx hb dX3_become_94 rfl (lv_at hl 0 rfl) ?_
  refine x_get (pc := 95) X E hI inX3 0 rfl rfl 8 (by decide) tw_1_50 rfl dX3_become_95 ?_
  refine lv_iconst (pc := 98) (v := 0) hx hb dX3_become_98 (by decide) ?_
  refine lv_iconst (pc := 99) (v := 5) hx hb dX3_become_99 (by decide) ?_
  obtain ⟨t5, e5, hf⟩ := q_ob hf
  refine x_copyi (pc := 100) (w' := (ffw G a0 a1 a2 a3 a4 a5 a6 a7 a8 a9 d0 d1 d2 d3 d4 d5 d6 d7 d8 d9 g_places g_kinds t1 g_howManyGenerators t2 t3 g_howManySeen t4 t5 f_seenIs f_seenPlaces f_howManyEvents f_eventWhat f_eventNumber g_places g_kinds g_weights g_howManyGenerators g_generators g_racks g_howManySeen g_seenFirst g_seenSecond g_seenIs g_seenPlaces g_howManyEvents g_eventWhat g_eventNumber)) X E hI tw_3_182 15 5 rfl rfl e5 rfl (by decide) (Nat.le_of_ble_eq_true rfl) hl.1 dX3_become_100 (fun H locs hI => ?_)
  refine lv_aload_n (pc := 103) hx hb dX3_become_103 rfl (lv_at hl 1 rfl) ?_
  refine x_get (pc := 104) X E hI inX3 10 rfl rfl 9 (by decide) tw_1_52 rfl dX3_become_104 ?_
  refine lv_iconst (pc := 107) (v := 0) hx hb dX3_become_107 (by decide) ?_
  refine lv_aload_n (pc := 108) hx hb dX3_become_108 rfl (lv_at hl 0 rfl) ?_
  refine x_get (pc := 109) X E hI inX3 0 rfl rfl 9 (by decide) tw_1_52 rfl dX3_become_109 ?_
  refine lv_iconst (pc := 112) (v := 0) hx hb dX3_become_112 (by decide) ?_
  refine lv_iconst (pc := 113) (v := 5) hx hb dX3_become_113 (by decide) ?_
  obtain ⟨t6, e6, hf⟩ := q_ob hf
  refine x_copyi (pc := 114) (w' := (ffw G a0 a1 a2 a3 a4 a5 a6 a7 a8 a9 d0 d1 d2 d3 d4 d5 d6 d7 d8 d9 g_places g_kinds t1 g_howManyGenerators t2 t3 g_howManySeen t4 t5 t6 f_seenPlaces f_howManyEvents f_eventWhat f_eventNumber g_places g_kinds g_weights g_howManyGenerators g_generators g_racks g_howManySeen g_seenFirst g_seenSecond g_seenIs g_seenPlaces g_howManyEvents g_eventWhat g_eventNumber)) X E hI tw_3_182 16 6 rfl rfl e6 rfl (by decide) (Nat.le_of_ble_eq_true rfl) hl.1 dX3_become_114 (fun H locs hI => ?_)
  refine lv_aload_n (pc := 117) hx hb dX3_become_117 rfl (lv_at hl 1 rfl) ?_
  refine x_get (pc := 118) X E hI inX3 10 rfl rfl 10 (by decide) tw_1_54 rfl dX3_become_118 ?_
  refine lv_iconst (pc := 121) (v := 0) hx hb dX3_become_121 (by decide) ?_
  refine lv_aload_n (pc := 122) hx hb dX3_become_122 rfl (lv_at hl 0 rfl) ?_
  refine x_get (pc := 123) X E hI inX3 0 rfl rfl 10 (by decide) tw_1_54 rfl dX3_become_123 ?_
  refine lv_iconst (pc := 126) (v := 0) hx hb dX3_become_126 (by decide) ?_
  refine lv_iconst (pc := 127) (v := 5) hx hb dX3_become_127 (by decide) ?_
  obtain ⟨t7, e7, hf⟩ := q_ob hf
  refine x_copyi (pc := 128) (w' := (ffw G a0 a1 a2 a3 a4 a5 a6 a7 a8 a9 d0 d1 d2 d3 d4 d5 d6 d7 d8 d9 g_places g_kinds t1 g_howManyGenerators t2 t3 g_howManySeen t4 t5 t6 t7 f_howManyEvents f_eventWhat f_eventNumber g_places g_kinds g_weights g_howManyGenerators g_generators g_racks g_howManySeen g_seenFirst g_seenSecond g_seenIs g_seenPlaces g_howManyEvents g_eventWhat g_eventNumber)) X E hI tw_3_182 17 7 rfl rfl e7 rfl (by decide) (Nat.le_of_ble_eq_true rfl) hl.1 dX3_become_128 (fun H locs hI => ?_)
  refine lv_aload_n (pc := 131) hx hb dX3_become_131 rfl (lv_at hl 0 rfl) ?_
  refine lv_aload_n (pc := 132) hx hb dX3_become_132 rfl (lv_at hl 1 rfl) ?_
  refine x_get (pc := 133) X E hI inX3 10 rfl rfl 11 (by decide) tw_1_55 rfl dX3_become_133 ?_
  refine x_put (pc := 136) (w' := (ffw G a0 a1 a2 a3 a4 a5 a6 a7 a8 a9 d0 d1 d2 d3 d4 d5 d6 d7 d8 d9 g_places g_kinds t1 g_howManyGenerators t2 t3 g_howManySeen t4 t5 t6 t7 g_howManyEvents f_eventWhat f_eventNumber g_places g_kinds g_weights g_howManyGenerators g_generators g_racks g_howManySeen g_seenFirst g_seenSecond g_seenIs g_seenPlaces g_howManyEvents g_eventWhat g_eventNumber)) X E hI inX3 tyX3 tyX3_ok nmX3 0 rfl rfl 11 (by decide) tw_1_55 rfl rfl rfl (Nat.le_of_ble_eq_true rfl) rfl dX3_become_136 (fun H locs hI => ?_)
  refine lv_aload_n (pc := 139) hx hb dX3_become_139 rfl (lv_at hl 1 rfl) ?_
  refine x_get (pc := 140) X E hI inX3 10 rfl rfl 12 (by decide) tw_1_57 rfl dX3_become_140 ?_
  refine lv_iconst (pc := 143) (v := 0) hx hb dX3_become_143 (by decide) ?_
  refine lv_aload_n (pc := 144) hx hb dX3_become_144 rfl (lv_at hl 0 rfl) ?_
  refine x_get (pc := 145) X E hI inX3 0 rfl rfl 12 (by decide) tw_1_57 rfl dX3_become_145 ?_
  refine lv_iconst (pc := 148) (v := 0) hx hb dX3_become_148 (by decide) ?_
  refine lv_bipush (pc := 149) (v := 8) hx hb dX3_become_149 (by decide) ?_
  obtain ⟨t8, e8, hf⟩ := q_ob hf
  refine x_copyi (pc := 151) (w' := (ffw G a0 a1 a2 a3 a4 a5 a6 a7 a8 a9 d0 d1 d2 d3 d4 d5 d6 d7 d8 d9 g_places g_kinds t1 g_howManyGenerators t2 t3 g_howManySeen t4 t5 t6 t7 g_howManyEvents t8 f_eventNumber g_places g_kinds g_weights g_howManyGenerators g_generators g_racks g_howManySeen g_seenFirst g_seenSecond g_seenIs g_seenPlaces g_howManyEvents g_eventWhat g_eventNumber)) X E hI tw_3_182 18 8 rfl rfl e8 rfl (by decide) (Nat.le_of_ble_eq_true rfl) hl.1 dX3_become_151 (fun H locs hI => ?_)
  refine lv_aload_n (pc := 154) hx hb dX3_become_154 rfl (lv_at hl 1 rfl) ?_
  refine x_get (pc := 155) X E hI inX3 10 rfl rfl 13 (by decide) tw_1_59 rfl dX3_become_155 ?_
  refine lv_iconst (pc := 158) (v := 0) hx hb dX3_become_158 (by decide) ?_
  refine lv_aload_n (pc := 159) hx hb dX3_become_159 rfl (lv_at hl 0 rfl) ?_
  refine x_get (pc := 160) X E hI inX3 0 rfl rfl 13 (by decide) tw_1_59 rfl dX3_become_160 ?_
  refine lv_iconst (pc := 163) (v := 0) hx hb dX3_become_163 (by decide) ?_
  refine lv_bipush (pc := 164) (v := 8) hx hb dX3_become_164 (by decide) ?_
  obtain ⟨t9, e9, hf⟩ := q_ob hf
  refine x_copyi (pc := 166) (w' := (ffw G a0 a1 a2 a3 a4 a5 a6 a7 a8 a9 d0 d1 d2 d3 d4 d5 d6 d7 d8 d9 g_places g_kinds t1 g_howManyGenerators t2 t3 g_howManySeen t4 t5 t6 t7 g_howManyEvents t8 t9 g_places g_kinds g_weights g_howManyGenerators g_generators g_racks g_howManySeen g_seenFirst g_seenSecond g_seenIs g_seenPlaces g_howManyEvents g_eventWhat g_eventNumber)) X E hI tw_3_182 19 9 rfl rfl e9 rfl (by decide) (Nat.le_of_ble_eq_true rfl) hl.1 dX3_become_166 (fun H locs hI => ?_)
  obtain rfl := Option.some.inj hf
  exact x_vret X hI dX3_become_169

abbrev rm_X4_paintingsLeft : Room := { frames := 0, cells := 0, slots := 0, locals := 0 }
set_option maxHeartbeats 4000000 in
set_option maxRecDepth 100000 in
theorem k_X4_paintingsLeft_L22 {p : Program} {l : Launch} {e : Env} {s : State} {m : MethodId} {args : Array Value} {below : List Frame} {meth : Method} {c : Code} {A : Nat → Prop} {G : GX}  {l1 : Int32} {l4 : Int32} {l5 : Int32} {K : Int64 → Int32 → Option (Int64)} {res : Int64} (X : CX RX4 cX4_paintingsLeft 7 (some .long) p s m args meth c) (E : EX G A s)
    (hK : ∀ (l2 : Int64) (l6 : Int32) (H : Heap) (locs : List Loc) (ls : Array Slot), IN A G [] s H locs → lv_has ls 7 [(1, .int l1), (2, .long l2), (4, .int l4), (5, .int l5), (6, .int l6)] → K l2 l6 = some res → W p l e rm_X4_paintingsLeft s m args below meth c H locs 0 0 (MQ below (QX G A [] (some (.long res))) args s 0 0 A) (F0 m 38 ls [])) :
    ∀ {k : Nat} {l2 : Int64} {l6 : Int32} {H : Heap} {locs : List Loc} {ls : Array Slot}, IN A G [] s H locs → lv_has ls 7 [(1, .int l1), (2, .long l2), (4, .int l4), (5, .int l5), (6, .int l6)] → f_X4_paintingsLeft_L22 l1 l4 l5 K k l2 l6 = some res → W p l e rm_X4_paintingsLeft s m args below meth c H locs 0 0 (MQ below (QX G A [] (some (.long res))) args s 0 0 A) (F0 m 22 ls []) := by
  obtain ⟨hx, hb, hml, hown, hts, hr, hlk⟩ := id X
  intro k
  induction k with
  | zero => intro l2 l6 H locs ls hI hl hf; exact nomatch (show none = some res from hf)
  | succ k ih =>
    intro l2 l6 H locs ls hI hl hf
    rw [f_X4_paintingsLeft_L22] at hf
    refine lv_iload (pc := 22) hx hb dX4_paintingsLeft_22 (lv_at hl 4 rfl) ?_
    refine lv_if_le (pc := 24) (tgt := 38) hx hb dX4_paintingsLeft_24 (by decide) (fun c1 => ?_) (fun c1 => ?_)
    · have hf := q_ip c1 hf
      exact hK _ _ _ _ _ hI (lv_sub hl [0, 1, 2, 3, 4] rfl) hf
    · have hf := q_in c1 hf
      refine lv_lload_n (pc := 27) hx hb dX4_paintingsLeft_27 rfl (lv_at hl 1 rfl) ?_
      refine lv_iload_n (pc := 28) hx hb dX4_paintingsLeft_28 rfl (lv_at hl 0 rfl) ?_
      refine lv_i2l (pc := 29) (v := (l1 : Int32).toInt64) hx hb dX4_paintingsLeft_29 rfl ?_
      refine lv_lmul (pc := 30) hx hb dX4_paintingsLeft_30 ?_
      refine lv_lstore_n (pc := 31) (lv' := [(2, .long (l2 * ((l1 : Int32).toInt64))), (1, .int l1), (4, .int l4), (5, .int l5), (6, .int l6)]) hx hb dX4_paintingsLeft_31 rfl hl (by decide) rfl (fun ls hl => ?_)
      refine lv_iinc (pc := 32) (v := l6 + (-1)) (lv' := [(6, .int (l6 + (-1))), (2, .long (l2 * ((l1 : Int32).toInt64))), (1, .int l1), (4, .int l4), (5, .int l5)]) hx hb dX4_paintingsLeft_32 hl (k := 4) rfl rfl (by decide) rfl (fun ls hl => ?_)
      refine lv_goto (pc := 35) (tgt := 22) hx hb dX4_paintingsLeft_35 (by decide) ?_
      exact ih hI (lv_sub hl [2, 1, 3, 4, 0] rfl) hf

set_option maxHeartbeats 4000000 in
set_option maxRecDepth 100000 in
theorem k_X4_paintingsLeft_L8 {p : Program} {l : Launch} {e : Env} {s : State} {m : MethodId} {args : Array Value} {below : List Frame} {meth : Method} {c : Code} {A : Nat → Prop} {G : GX}  {l1 : Int32} {K : Int64 → Int32 → Int32 → Option (Int64)} {res : Int64} (X : CX RX4 cX4_paintingsLeft 7 (some .long) p s m args meth c) (E : EX G A s)
    (hK : ∀ (l2 : Int64) (l4 : Int32) (l5 : Int32) (H : Heap) (locs : List Loc) (ls : Array Slot), IN A G [] s H locs → lv_has ls 7 [(1, .int l1), (2, .long l2), (4, .int l4), (5, .int l5)] → K l2 l4 l5 = some res → W p l e rm_X4_paintingsLeft s m args below meth c H locs 0 0 (MQ below (QX G A [] (some (.long res))) args s 0 0 A) (F0 m 51 ls [])) :
    ∀ {k : Nat} {l2 : Int64} {l4 : Int32} {l5 : Int32} {H : Heap} {locs : List Loc} {ls : Array Slot}, IN A G [] s H locs → lv_has ls 7 [(1, .int l1), (2, .long l2), (4, .int l4), (5, .int l5)] → f_X4_paintingsLeft_L8 l1 K k l2 l4 l5 = some res → W p l e rm_X4_paintingsLeft s m args below meth c H locs 0 0 (MQ below (QX G A [] (some (.long res))) args s 0 0 A) (F0 m 8 ls []) := by
  obtain ⟨hx, hb, hml, hown, hts, hr, hlk⟩ := id X
  intro k
  induction k with
  | zero => intro l2 l4 l5 H locs ls hI hl hf; exact nomatch (show none = some res from hf)
  | succ k ih =>
    intro l2 l4 l5 H locs ls hI hl hf
    rw [f_X4_paintingsLeft_L8] at hf
    refine lv_iload (pc := 8) hx hb dX4_paintingsLeft_8 (lv_at hl 3 rfl) ?_
    refine lv_bipush (pc := 10) (v := 6) hx hb dX4_paintingsLeft_10 (by decide) ?_
    refine lv_icmp_ge (pc := 12) (tgt := 51) hx hb dX4_paintingsLeft_12 (by decide) (fun c1 => ?_) (fun c1 => ?_)
    · have hf := q_ip c1 hf
      exact hK _ _ _ _ _ _ hI (lv_sub hl [0, 1, 2, 3] rfl) hf
    · have hf := q_in c1 hf
      refine lv_iload (pc := 15) hx hb dX4_paintingsLeft_15 (lv_at hl 2 rfl) ?_
      refine lv_bipush (pc := 17) (v := 10) hx hb dX4_paintingsLeft_17 (by decide) ?_
      obtain ⟨t2, e2, hf⟩ := q_ob hf
      refine x_irem (pc := 19) X e2 dX4_paintingsLeft_19 ?_
      refine lv_istore (pc := 20) (lv' := [(6, .int t2), (1, .int l1), (2, .long l2), (4, .int l4), (5, .int l5)]) hx hb dX4_paintingsLeft_20 hl (by decide) rfl (fun ls hl => ?_)
      refine k_X4_paintingsLeft_L22 X E (fun l2_3 l6_3 H locs ls hI hl hf => ?_) hI (lv_sub hl [1, 2, 3, 4, 0] rfl) hf
      refine lv_iload (pc := 38) hx hb dX4_paintingsLeft_38 (lv_at hl 2 rfl) ?_
      refine lv_bipush (pc := 40) (v := 10) hx hb dX4_paintingsLeft_40 (by decide) ?_
      obtain ⟨t4, e4, hf⟩ := q_ob hf
      refine x_idiv (pc := 42) X e4 dX4_paintingsLeft_42 ?_
      refine lv_istore (pc := 43) (lv' := [(4, .int t4), (1, .int l1), (2, .long l2_3), (5, .int l5), (6, .int l6_3)]) hx hb dX4_paintingsLeft_43 hl (by decide) rfl (fun ls hl => ?_)
      refine lv_iinc (pc := 45) (v := l5 + 1) (lv' := [(5, .int (l5 + 1)), (4, .int t4), (1, .int l1), (2, .long l2_3), (6, .int l6_3)]) hx hb dX4_paintingsLeft_45 hl (k := 3) rfl rfl (by decide) rfl (fun ls hl => ?_)
      refine lv_goto (pc := 48) (tgt := 8) hx hb dX4_paintingsLeft_48 (by decide) ?_
      exact ih hI (lv_sub hl [2, 3, 1, 0] rfl) hf

set_option maxHeartbeats 4000000 in
set_option maxRecDepth 100000 in
theorem c_X4_paintingsLeft (l : Launch) (G : GX)  {l0 : Int32} {l1 : Int32} {res : Int64} (hf : f_X4_paintingsLeft l0 l1 = some res) : MX l yX4_paintingsLeft cX4_paintingsLeft 7 (some .long) rm_X4_paintingsLeft G [] [.int l0, .int l1] [] (some (.long res)) 0 0 := by
  refine MX.of (plainFor_of_name (by decide)) (Nat.le_of_ble_eq_true rfl) ?_
  intro p e s m below meth c A X E hI ls hl
  obtain ⟨hx, hb, hml, hown, hts, hr, hlk⟩ := id X
  have hl : lv_has ls 7 [(0, .int l0), (1, .int l1)] := hl
  unfold f_X4_paintingsLeft at hf
  refine lv_lconst (pc := 0) (v := 1) hx hb dX4_paintingsLeft_0 (by decide) ?_
  refine lv_lstore_n (pc := 1) (lv' := [(2, .long 1), (0, .int l0), (1, .int l1)]) hx hb dX4_paintingsLeft_1 rfl hl (by decide) rfl (fun ls hl => ?_)
  refine lv_iload_n (pc := 2) hx hb dX4_paintingsLeft_2 rfl (lv_at hl 1 rfl) ?_
  refine lv_istore (pc := 3) (lv' := [(4, .int l0), (2, .long 1), (0, .int l0), (1, .int l1)]) hx hb dX4_paintingsLeft_3 hl (by decide) rfl (fun ls hl => ?_)
  refine lv_iconst (pc := 5) (v := 0) hx hb dX4_paintingsLeft_5 (by decide) ?_
  refine lv_istore (pc := 6) (lv' := [(5, .int 0), (4, .int l0), (2, .long 1), (0, .int l0), (1, .int l1)]) hx hb dX4_paintingsLeft_6 hl (by decide) rfl (fun ls hl => ?_)
  refine k_X4_paintingsLeft_L8 X E (fun l2_1 l4_1 l5_1 H locs ls hI hl hf => ?_) hI (lv_sub hl [4, 2, 1, 0] rfl) hf
  refine lv_lload_n (pc := 51) hx hb dX4_paintingsLeft_51 rfl (lv_at hl 1 rfl) ?_
  obtain rfl := Option.some.inj hf
  exact x_lret X hI dX4_paintingsLeft_52

abbrev rm_X4_add : Room := { frames := 1, cells := 0, slots := 0, locals := 40 }
set_option maxHeartbeats 4000000 in
set_option maxRecDepth 100000 in
theorem k_X4_add_L2 {p : Program} {l : Launch} {e : Env} {s : State} {m : MethodId} {args : Array Value} {below : List Frame} {meth : Method} {c : Code} {A : Nat → Prop} {G : GX} {a0 : Nat} {a1 : Nat} {a2 : Nat} {l1 : Int32} {i_sort : Nat → Int32} {i_howOften : Nat → Int32} {i_sorts : Int32} {i_moves : Int32} {K : Int32 → Option ((Nat → Int32) × (Nat → Int32) × Int32)} {res : (Nat → Int32) × (Nat → Int32) × Int32} (X : CX RX4 cX4_add 3 none p s m args meth c) (E : EX G A s)
    (hK : ∀ (l2 : Int32) (H : Heap) (locs : List Loc) (ls : Array Slot), IN A G (iw G a0 a1 a2 i_sort i_howOften i_sorts i_moves) s H locs → lv_has ls 3 [(0, .ref a0), (1, .int l1), (2, .int l2)] → K l2 = some res → W p l e rm_X4_add s m args below meth c H locs 0 0 (MQ below (QX G A (iw G a0 a1 a2 res.1 res.2.1 res.2.2 i_moves) none) args s 0 0 A) (F0 m 26 ls [])) :
    ∀ {k : Nat} {l2 : Int32} {H : Heap} {locs : List Loc} {ls : Array Slot}, IN A G (iw G a0 a1 a2 i_sort i_howOften i_sorts i_moves) s H locs → lv_has ls 3 [(0, .ref a0), (1, .int l1), (2, .int l2)] → f_X4_add_L2 l1 i_sort i_sorts K k l2 = some res → W p l e rm_X4_add s m args below meth c H locs 0 0 (MQ below (QX G A (iw G a0 a1 a2 res.1 res.2.1 res.2.2 i_moves) none) args s 0 0 A) (F0 m 2 ls []) := by
  obtain ⟨hx, hb, hml, hown, hts, hr, hlk⟩ := id X
  intro k
  induction k with
  | zero => intro l2 H locs ls hI hl hf; exact nomatch (show none = some res from hf)
  | succ k ih =>
    intro l2 H locs ls hI hl hf
    rw [f_X4_add_L2] at hf
    refine lv_iload_n (pc := 2) hx hb dX4_add_2 rfl (lv_at hl 2 rfl) ?_
    refine lv_aload_n (pc := 3) hx hb dX4_add_3 rfl (lv_at hl 0 rfl) ?_
    refine x_get (pc := 4) X E hI inX4 0 rfl rfl 2 (by decide) tw_1_130 rfl dX4_add_4 ?_
    refine lv_icmp_ge (pc := 7) (tgt := 26) hx hb dX4_add_7 (by decide) (fun c1 => ?_) (fun c1 => ?_)
    · have hf := q_ip c1 hf
      exact hK _ _ _ _ hI (lv_sub hl [0, 1, 2] rfl) hf
    · have hf := q_in c1 hf
      refine lv_aload_n (pc := 10) hx hb dX4_add_10 rfl (lv_at hl 0 rfl) ?_
      refine x_get (pc := 11) X E hI inX4 0 rfl rfl 0 (by decide) tw_1_126 rfl dX4_add_11 ?_
      refine lv_iload_n (pc := 14) hx hb dX4_add_14 rfl (lv_at hl 2 rfl) ?_
      obtain ⟨t2, e2, hf⟩ := q_ob hf
      refine x_iald (pc := 15) X E hI 1 rfl e2 dX4_add_15 ?_
      refine lv_iload_n (pc := 16) hx hb dX4_add_16 rfl (lv_at hl 1 rfl) ?_
      refine lv_icmp_ge (pc := 17) (tgt := 26) hx hb dX4_add_17 (by decide) (fun c3 => ?_) (fun c3 => ?_)
      · have hf := q_ip c3 hf
        exact hK _ _ _ _ hI (lv_sub hl [0, 1, 2] rfl) hf
      · have hf := q_in c3 hf
        refine lv_iinc (pc := 20) (v := l2 + 1) (lv' := [(2, .int (l2 + 1)), (0, .ref a0), (1, .int l1)]) hx hb dX4_add_20 hl (k := 2) rfl rfl (by decide) rfl (fun ls hl => ?_)
        refine lv_goto (pc := 23) (tgt := 2) hx hb dX4_add_23 (by decide) ?_
        exact ih hI (lv_sub hl [1, 2, 0] rfl) hf

set_option maxHeartbeats 4000000 in
set_option maxRecDepth 100000 in
theorem c_X4_add (l : Launch) (G : GX) (a0 : Nat) (a1 : Nat) (a2 : Nat) {l1 : Int32} {i_sort : Nat → Int32} {i_howOften : Nat → Int32} {i_sorts : Int32} {i_moves : Int32} {res : (Nat → Int32) × (Nat → Int32) × Int32} (hf : f_X4_add l1 i_sort i_howOften i_sorts = some res) : MX l yX4_add cX4_add 3 none rm_X4_add G (iw G a0 a1 a2 i_sort i_howOften i_sorts i_moves) [.ref (a0), .int l1] (iw G a0 a1 a2 res.1 res.2.1 res.2.2 i_moves) none 0 0 := by
  refine MX.of (plainFor_of_name (by decide)) (Nat.le_of_ble_eq_true rfl) ?_
  intro p e s m below meth c A X E hI ls hl
  obtain ⟨hx, hb, hml, hown, hts, hr, hlk⟩ := id X
  have hl : lv_has ls 3 [(0, .ref a0), (1, .int l1)] := hl
  unfold f_X4_add at hf
  refine lv_iconst (pc := 0) (v := 0) hx hb dX4_add_0 (by decide) ?_
  refine lv_istore_n (pc := 1) (lv' := [(2, .int 0), (0, .ref a0), (1, .int l1)]) hx hb dX4_add_1 rfl hl (by decide) rfl (fun ls hl => ?_)
  refine k_X4_add_L2 X E (fun l2_1 H locs ls hI hl hf => ?_) hI (lv_sub hl [1, 2, 0] rfl) hf
  refine lv_iload_n (pc := 26) hx hb dX4_add_26 rfl (lv_at hl 2 rfl) ?_
  refine lv_aload_n (pc := 27) hx hb dX4_add_27 rfl (lv_at hl 0 rfl) ?_
  refine x_get (pc := 28) X E hI inX4 0 rfl rfl 2 (by decide) tw_1_130 rfl dX4_add_28 ?_
  refine lv_icmp_ge (pc := 31) (tgt := 57) hx hb dX4_add_31 (by decide) (fun c2 => ?_) (fun c2 => ?_)
  · have hf := q_ip c2 hf
    refine lv_aload_n (pc := 57) hx hb dX4_add_57 rfl (lv_at hl 0 rfl) ?_
    refine x_get (pc := 58) X E hI inX4 0 rfl rfl 2 (by decide) tw_1_130 rfl dX4_add_58 ?_
    refine lv_bipush (pc := 61) (v := 11) hx hb dX4_add_61 (by decide) ?_
    refine lv_icmp_ge (pc := 63) (tgt := 132) hx hb dX4_add_63 (by decide) (fun c3 => ?_) (fun c3 => ?_)
    · have hf := q_ip c3 hf
      obtain rfl := Option.some.inj hf
      exact x_vret X hI dX4_add_132
    · have hf := q_in c3 hf
      refine lv_aload_n (pc := 66) hx hb dX4_add_66 rfl (lv_at hl 0 rfl) ?_
      refine x_get (pc := 67) X E hI inX4 0 rfl rfl 0 (by decide) tw_1_126 rfl dX4_add_67 ?_
      refine lv_iload_n (pc := 70) hx hb dX4_add_70 rfl (lv_at hl 2 rfl) ?_
      refine lv_aload_n (pc := 71) hx hb dX4_add_71 rfl (lv_at hl 0 rfl) ?_
      refine x_get (pc := 72) X E hI inX4 0 rfl rfl 0 (by decide) tw_1_126 rfl dX4_add_72 ?_
      refine lv_iload_n (pc := 75) hx hb dX4_add_75 rfl (lv_at hl 2 rfl) ?_
      refine lv_iconst (pc := 76) (v := 1) hx hb dX4_add_76 (by decide) ?_
      refine lv_iadd (pc := 77) hx hb dX4_add_77 ?_
      refine lv_aload_n (pc := 78) hx hb dX4_add_78 rfl (lv_at hl 0 rfl) ?_
      refine x_get (pc := 79) X E hI inX4 0 rfl rfl 2 (by decide) tw_1_130 rfl dX4_add_79 ?_
      refine lv_iload_n (pc := 82) hx hb dX4_add_82 rfl (lv_at hl 2 rfl) ?_
      refine lv_isub (pc := 83) hx hb dX4_add_83 ?_
      obtain ⟨t4, e4, hf⟩ := q_ob hf
      refine x_copyi (pc := 84) (w' := (iw G a0 a1 a2 t4 i_howOften i_sorts i_moves)) X E hI tw_2_175 1 1 rfl rfl e4 rfl (by decide) (Nat.le_of_ble_eq_true rfl) hl.1 dX4_add_84 (fun H locs hI => ?_)
      refine lv_aload_n (pc := 87) hx hb dX4_add_87 rfl (lv_at hl 0 rfl) ?_
      refine x_get (pc := 88) X E hI inX4 0 rfl rfl 1 (by decide) tw_1_128 rfl dX4_add_88 ?_
      refine lv_iload_n (pc := 91) hx hb dX4_add_91 rfl (lv_at hl 2 rfl) ?_
      refine lv_aload_n (pc := 92) hx hb dX4_add_92 rfl (lv_at hl 0 rfl) ?_
      refine x_get (pc := 93) X E hI inX4 0 rfl rfl 1 (by decide) tw_1_128 rfl dX4_add_93 ?_
      refine lv_iload_n (pc := 96) hx hb dX4_add_96 rfl (lv_at hl 2 rfl) ?_
      refine lv_iconst (pc := 97) (v := 1) hx hb dX4_add_97 (by decide) ?_
      refine lv_iadd (pc := 98) hx hb dX4_add_98 ?_
      refine lv_aload_n (pc := 99) hx hb dX4_add_99 rfl (lv_at hl 0 rfl) ?_
      refine x_get (pc := 100) X E hI inX4 0 rfl rfl 2 (by decide) tw_1_130 rfl dX4_add_100 ?_
      refine lv_iload_n (pc := 103) hx hb dX4_add_103 rfl (lv_at hl 2 rfl) ?_
      refine lv_isub (pc := 104) hx hb dX4_add_104 ?_
      obtain ⟨t5, e5, hf⟩ := q_ob hf
      refine x_copyi (pc := 105) (w' := (iw G a0 a1 a2 t4 t5 i_sorts i_moves)) X E hI tw_2_175 2 2 rfl rfl e5 rfl (by decide) (Nat.le_of_ble_eq_true rfl) hl.1 dX4_add_105 (fun H locs hI => ?_)
      refine lv_aload_n (pc := 108) hx hb dX4_add_108 rfl (lv_at hl 0 rfl) ?_
      refine x_get (pc := 109) X E hI inX4 0 rfl rfl 0 (by decide) tw_1_126 rfl dX4_add_109 ?_
      refine lv_iload_n (pc := 112) hx hb dX4_add_112 rfl (lv_at hl 2 rfl) ?_
      refine lv_iload_n (pc := 113) hx hb dX4_add_113 rfl (lv_at hl 1 rfl) ?_
      obtain ⟨t6, e6, hf⟩ := q_ob hf
      refine x_iast (pc := 114) (w' := (iw G a0 a1 a2 t6 t5 i_sorts i_moves)) X E hI 1 rfl e6 rfl dX4_add_114 (fun H locs hI => ?_)
      refine lv_aload_n (pc := 115) hx hb dX4_add_115 rfl (lv_at hl 0 rfl) ?_
      refine x_get (pc := 116) X E hI inX4 0 rfl rfl 1 (by decide) tw_1_128 rfl dX4_add_116 ?_
      refine lv_iload_n (pc := 119) hx hb dX4_add_119 rfl (lv_at hl 2 rfl) ?_
      refine lv_iconst (pc := 120) (v := 1) hx hb dX4_add_120 (by decide) ?_
      obtain ⟨t7, e7, hf⟩ := q_ob hf
      refine x_iast (pc := 121) (w' := (iw G a0 a1 a2 t6 t7 i_sorts i_moves)) X E hI 2 rfl e7 rfl dX4_add_121 (fun H locs hI => ?_)
      refine lv_aload_n (pc := 122) hx hb dX4_add_122 rfl (lv_at hl 0 rfl) ?_
      refine lv_dup (pc := 123) hx hb dX4_add_123 rfl ?_
      refine x_get (pc := 124) X E hI inX4 0 rfl rfl 2 (by decide) tw_1_130 rfl dX4_add_124 ?_
      refine lv_iconst (pc := 127) (v := 1) hx hb dX4_add_127 (by decide) ?_
      refine lv_iadd (pc := 128) hx hb dX4_add_128 ?_
      refine x_put (pc := 129) (w' := (iw G a0 a1 a2 t6 t7 (i_sorts + 1) i_moves)) X E hI inX4 tyX4 tyX4_ok nmX4 0 rfl rfl 2 (by decide) tw_1_130 rfl rfl rfl (Nat.le_of_ble_eq_true rfl) rfl dX4_add_129 (fun H locs hI => ?_)
      obtain rfl := Option.some.inj hf
      exact x_vret X hI dX4_add_132
  · have hf := q_in c2 hf
    refine lv_aload_n (pc := 34) hx hb dX4_add_34 rfl (lv_at hl 0 rfl) ?_
    refine x_get (pc := 35) X E hI inX4 0 rfl rfl 0 (by decide) tw_1_126 rfl dX4_add_35 ?_
    refine lv_iload_n (pc := 38) hx hb dX4_add_38 rfl (lv_at hl 2 rfl) ?_
    obtain ⟨t8, e8, hf⟩ := q_ob hf
    refine x_iald (pc := 39) X E hI 1 rfl e8 dX4_add_39 ?_
    refine lv_iload_n (pc := 40) hx hb dX4_add_40 rfl (lv_at hl 1 rfl) ?_
    refine lv_icmp_ne (pc := 41) (tgt := 57) hx hb dX4_add_41 (by decide) (fun c9 => ?_) (fun c9 => ?_)
    · have hf := q_in c9 hf
      refine lv_aload_n (pc := 57) hx hb dX4_add_57 rfl (lv_at hl 0 rfl) ?_
      refine x_get (pc := 58) X E hI inX4 0 rfl rfl 2 (by decide) tw_1_130 rfl dX4_add_58 ?_
      refine lv_bipush (pc := 61) (v := 11) hx hb dX4_add_61 (by decide) ?_
      refine lv_icmp_ge (pc := 63) (tgt := 132) hx hb dX4_add_63 (by decide) (fun c10 => ?_) (fun c10 => ?_)
      · have hf := q_ip c10 hf
        obtain rfl := Option.some.inj hf
        exact x_vret X hI dX4_add_132
      · have hf := q_in c10 hf
        refine lv_aload_n (pc := 66) hx hb dX4_add_66 rfl (lv_at hl 0 rfl) ?_
        refine x_get (pc := 67) X E hI inX4 0 rfl rfl 0 (by decide) tw_1_126 rfl dX4_add_67 ?_
        refine lv_iload_n (pc := 70) hx hb dX4_add_70 rfl (lv_at hl 2 rfl) ?_
        refine lv_aload_n (pc := 71) hx hb dX4_add_71 rfl (lv_at hl 0 rfl) ?_
        refine x_get (pc := 72) X E hI inX4 0 rfl rfl 0 (by decide) tw_1_126 rfl dX4_add_72 ?_
        refine lv_iload_n (pc := 75) hx hb dX4_add_75 rfl (lv_at hl 2 rfl) ?_
        refine lv_iconst (pc := 76) (v := 1) hx hb dX4_add_76 (by decide) ?_
        refine lv_iadd (pc := 77) hx hb dX4_add_77 ?_
        refine lv_aload_n (pc := 78) hx hb dX4_add_78 rfl (lv_at hl 0 rfl) ?_
        refine x_get (pc := 79) X E hI inX4 0 rfl rfl 2 (by decide) tw_1_130 rfl dX4_add_79 ?_
        refine lv_iload_n (pc := 82) hx hb dX4_add_82 rfl (lv_at hl 2 rfl) ?_
        refine lv_isub (pc := 83) hx hb dX4_add_83 ?_
        obtain ⟨t11, e11, hf⟩ := q_ob hf
        refine x_copyi (pc := 84) (w' := (iw G a0 a1 a2 t11 i_howOften i_sorts i_moves)) X E hI tw_2_175 1 1 rfl rfl e11 rfl (by decide) (Nat.le_of_ble_eq_true rfl) hl.1 dX4_add_84 (fun H locs hI => ?_)
        refine lv_aload_n (pc := 87) hx hb dX4_add_87 rfl (lv_at hl 0 rfl) ?_
        refine x_get (pc := 88) X E hI inX4 0 rfl rfl 1 (by decide) tw_1_128 rfl dX4_add_88 ?_
        refine lv_iload_n (pc := 91) hx hb dX4_add_91 rfl (lv_at hl 2 rfl) ?_
        refine lv_aload_n (pc := 92) hx hb dX4_add_92 rfl (lv_at hl 0 rfl) ?_
        refine x_get (pc := 93) X E hI inX4 0 rfl rfl 1 (by decide) tw_1_128 rfl dX4_add_93 ?_
        refine lv_iload_n (pc := 96) hx hb dX4_add_96 rfl (lv_at hl 2 rfl) ?_
        refine lv_iconst (pc := 97) (v := 1) hx hb dX4_add_97 (by decide) ?_
        refine lv_iadd (pc := 98) hx hb dX4_add_98 ?_
        refine lv_aload_n (pc := 99) hx hb dX4_add_99 rfl (lv_at hl 0 rfl) ?_
        refine x_get (pc := 100) X E hI inX4 0 rfl rfl 2 (by decide) tw_1_130 rfl dX4_add_100 ?_
        refine lv_iload_n (pc := 103) hx hb dX4_add_103 rfl (lv_at hl 2 rfl) ?_
        refine lv_isub (pc := 104) hx hb dX4_add_104 ?_
        obtain ⟨t12, e12, hf⟩ := q_ob hf
        refine x_copyi (pc := 105) (w' := (iw G a0 a1 a2 t11 t12 i_sorts i_moves)) X E hI tw_2_175 2 2 rfl rfl e12 rfl (by decide) (Nat.le_of_ble_eq_true rfl) hl.1 dX4_add_105 (fun H locs hI => ?_)
        refine lv_aload_n (pc := 108) hx hb dX4_add_108 rfl (lv_at hl 0 rfl) ?_
        refine x_get (pc := 109) X E hI inX4 0 rfl rfl 0 (by decide) tw_1_126 rfl dX4_add_109 ?_
        refine lv_iload_n (pc := 112) hx hb dX4_add_112 rfl (lv_at hl 2 rfl) ?_
        refine lv_iload_n (pc := 113) hx hb dX4_add_113 rfl (lv_at hl 1 rfl) ?_
        obtain ⟨t13, e13, hf⟩ := q_ob hf
        refine x_iast (pc := 114) (w' := (iw G a0 a1 a2 t13 t12 i_sorts i_moves)) X E hI 1 rfl e13 rfl dX4_add_114 (fun H locs hI => ?_)
        refine lv_aload_n (pc := 115) hx hb dX4_add_115 rfl (lv_at hl 0 rfl) ?_
        refine x_get (pc := 116) X E hI inX4 0 rfl rfl 1 (by decide) tw_1_128 rfl dX4_add_116 ?_
        refine lv_iload_n (pc := 119) hx hb dX4_add_119 rfl (lv_at hl 2 rfl) ?_
        refine lv_iconst (pc := 120) (v := 1) hx hb dX4_add_120 (by decide) ?_
        obtain ⟨t14, e14, hf⟩ := q_ob hf
        refine x_iast (pc := 121) (w' := (iw G a0 a1 a2 t13 t14 i_sorts i_moves)) X E hI 2 rfl e14 rfl dX4_add_121 (fun H locs hI => ?_)
        refine lv_aload_n (pc := 122) hx hb dX4_add_122 rfl (lv_at hl 0 rfl) ?_
        refine lv_dup (pc := 123) hx hb dX4_add_123 rfl ?_
        refine x_get (pc := 124) X E hI inX4 0 rfl rfl 2 (by decide) tw_1_130 rfl dX4_add_124 ?_
        refine lv_iconst (pc := 127) (v := 1) hx hb dX4_add_127 (by decide) ?_
        refine lv_iadd (pc := 128) hx hb dX4_add_128 ?_
        refine x_put (pc := 129) (w' := (iw G a0 a1 a2 t13 t14 (i_sorts + 1) i_moves)) X E hI inX4 tyX4 tyX4_ok nmX4 0 rfl rfl 2 (by decide) tw_1_130 rfl rfl rfl (Nat.le_of_ble_eq_true rfl) rfl dX4_add_129 (fun H locs hI => ?_)
        obtain rfl := Option.some.inj hf
        exact x_vret X hI dX4_add_132
    · have hf := q_ip c9 hf
      refine lv_aload_n (pc := 44) hx hb dX4_add_44 rfl (lv_at hl 0 rfl) ?_
      refine x_get (pc := 45) X E hI inX4 0 rfl rfl 1 (by decide) tw_1_128 rfl dX4_add_45 ?_
      refine lv_iload_n (pc := 48) hx hb dX4_add_48 rfl (lv_at hl 2 rfl) ?_
      refine lv_dup2_11 (pc := 49) hx hb dX4_add_49 rfl rfl ?_
      obtain ⟨t15, e15, hf⟩ := q_ob hf
      refine x_iald (pc := 50) X E hI 2 rfl e15 dX4_add_50 ?_
      refine lv_iconst (pc := 51) (v := 1) hx hb dX4_add_51 (by decide) ?_
      refine lv_iadd (pc := 52) hx hb dX4_add_52 ?_
      obtain ⟨t16, e16, hf⟩ := q_ob hf
      refine x_iast (pc := 53) (w' := (iw G a0 a1 a2 i_sort t16 i_sorts i_moves)) X E hI 2 rfl e16 rfl dX4_add_53 (fun H locs hI => ?_)
      refine lv_goto (pc := 54) (tgt := 132) hx hb dX4_add_54 (by decide) ?_
      obtain rfl := Option.some.inj hf
      exact x_vret X hI dX4_add_132

abbrev rm_X4_classesFor : Room := { frames := 1, cells := 0, slots := 0, locals := 26 }
set_option maxHeartbeats 4000000 in
set_option maxRecDepth 100000 in
theorem k_X4_classesFor_L5 {p : Program} {l : Launch} {e : Env} {s : State} {m : MethodId} {args : Array Value} {below : List Frame} {meth : Method} {c : Code} {A : Nat → Prop} {G : GX} {a0 : Nat} {a1 : Nat} {a2 : Nat} {l1 : Int32} {i_sort : Nat → Int32} {i_howOften : Nat → Int32} {i_sorts : Int32} {i_moves : Int32} {K : Int64 → Int32 → Option (Int64)} {res : Int64} (X : CX RX4 cX4_classesFor 5 (some .long) p s m args meth c) (E : EX G A s)
    (hK : ∀ (l2 : Int64) (l4 : Int32) (H : Heap) (locs : List Loc) (ls : Array Slot), IN A G (iw G a0 a1 a2 i_sort i_howOften i_sorts i_moves) s H locs → lv_has ls 5 [(0, .ref a0), (1, .int l1), (2, .long l2), (4, .int l4)] → K l2 l4 = some res → W p l e rm_X4_classesFor s m args below meth c H locs 0 0 (MQ below (QX G A (iw G a0 a1 a2 i_sort i_howOften i_sorts i_moves) (some (.long res))) args s 0 0 A) (F0 m 43 ls [])) :
    ∀ {k : Nat} {l2 : Int64} {l4 : Int32} {H : Heap} {locs : List Loc} {ls : Array Slot}, IN A G (iw G a0 a1 a2 i_sort i_howOften i_sorts i_moves) s H locs → lv_has ls 5 [(0, .ref a0), (1, .int l1), (2, .long l2), (4, .int l4)] → f_X4_classesFor_L5 l1 i_sort i_howOften i_sorts K k l2 l4 = some res → W p l e rm_X4_classesFor s m args below meth c H locs 0 0 (MQ below (QX G A (iw G a0 a1 a2 i_sort i_howOften i_sorts i_moves) (some (.long res))) args s 0 0 A) (F0 m 5 ls []) := by
  obtain ⟨hx, hb, hml, hown, hts, hr, hlk⟩ := id X
  intro k
  induction k with
  | zero => intro l2 l4 H locs ls hI hl hf; exact nomatch (show none = some res from hf)
  | succ k ih =>
    intro l2 l4 H locs ls hI hl hf
    rw [f_X4_classesFor_L5] at hf
    refine lv_iload (pc := 5) hx hb dX4_classesFor_5 (lv_at hl 3 rfl) ?_
    refine lv_aload_n (pc := 7) hx hb dX4_classesFor_7 rfl (lv_at hl 0 rfl) ?_
    refine x_get (pc := 8) X E hI inX4 0 rfl rfl 2 (by decide) tw_1_130 rfl dX4_classesFor_8 ?_
    refine lv_icmp_ge (pc := 11) (tgt := 43) hx hb dX4_classesFor_11 (by decide) (fun c1 => ?_) (fun c1 => ?_)
    · have hf := q_ip c1 hf
      exact hK _ _ _ _ _ hI (lv_sub hl [0, 1, 2, 3] rfl) hf
    · have hf := q_in c1 hf
      refine lv_lload_n (pc := 14) hx hb dX4_classesFor_14 rfl (lv_at hl 2 rfl) ?_
      refine lv_aload_n (pc := 15) hx hb dX4_classesFor_15 rfl (lv_at hl 0 rfl) ?_
      refine x_get (pc := 16) X E hI inX4 0 rfl rfl 1 (by decide) tw_1_128 rfl dX4_classesFor_16 ?_
      refine lv_iload (pc := 19) hx hb dX4_classesFor_19 (lv_at hl 3 rfl) ?_
      obtain ⟨t2, e2, hf⟩ := q_ob hf
      refine x_iald (pc := 21) X E hI 2 rfl e2 dX4_classesFor_21 ?_
      refine lv_i2l (pc := 22) (v := (t2 : Int32).toInt64) hx hb dX4_classesFor_22 rfl ?_
      refine lv_aload_n (pc := 23) hx hb dX4_classesFor_23 rfl (lv_at hl 0 rfl) ?_
      refine x_get (pc := 24) X E hI inX4 0 rfl rfl 0 (by decide) tw_1_126 rfl dX4_classesFor_24 ?_
      refine lv_iload (pc := 27) hx hb dX4_classesFor_27 (lv_at hl 3 rfl) ?_
      obtain ⟨t3, e3, hf⟩ := q_ob hf
      refine x_iald (pc := 29) X E hI 1 rfl e3 dX4_classesFor_29 ?_
      refine lv_iload_n (pc := 30) hx hb dX4_classesFor_30 rfl (lv_at hl 1 rfl) ?_
      obtain ⟨t4, e4, hf⟩ := q_ob hf
      refine x_cSn (pc := 31) (st1 := [.long t4, .long ((t2 : Int32).toInt64), .long l2]) X E hI (c_X4_paintingsLeft l G e4) ks_X4_56 hd_X4_paintingsLeft ⟨rfl, rfl⟩ (by decide) rfl hl.1 rfl (Nat.le_of_ble_eq_true rfl) dX4_classesFor_31 ⟨Nat.le_of_ble_eq_true rfl, Nat.le_of_ble_eq_true rfl⟩ rfl (fun H locs hI => ?_)
      refine lv_lmul (pc := 34) hx hb dX4_classesFor_34 ?_
      refine lv_ladd (pc := 35) hx hb dX4_classesFor_35 ?_
      refine lv_lstore_n (pc := 36) (lv' := [(2, .long (l2 + (((t2 : Int32).toInt64) * t4))), (0, .ref a0), (1, .int l1), (4, .int l4)]) hx hb dX4_classesFor_36 rfl hl (by decide) rfl (fun ls hl => ?_)
      refine lv_iinc (pc := 37) (v := l4 + 1) (lv' := [(4, .int (l4 + 1)), (2, .long (l2 + (((t2 : Int32).toInt64) * t4))), (0, .ref a0), (1, .int l1)]) hx hb dX4_classesFor_37 hl (k := 3) rfl rfl (by decide) rfl (fun ls hl => ?_)
      refine lv_goto (pc := 40) (tgt := 5) hx hb dX4_classesFor_40 (by decide) ?_
      exact ih hI (lv_sub hl [2, 3, 1, 0] rfl) hf

set_option maxHeartbeats 4000000 in
set_option maxRecDepth 100000 in
theorem c_X4_classesFor (l : Launch) (G : GX) (a0 : Nat) (a1 : Nat) (a2 : Nat) {l1 : Int32} {i_sort : Nat → Int32} {i_howOften : Nat → Int32} {i_sorts : Int32} {i_moves : Int32} {res : Int64} (hf : f_X4_classesFor l1 i_sort i_howOften i_sorts i_moves = some res) : MX l yX4_classesFor cX4_classesFor 5 (some .long) rm_X4_classesFor G (iw G a0 a1 a2 i_sort i_howOften i_sorts i_moves) [.ref (a0), .int l1] (iw G a0 a1 a2 i_sort i_howOften i_sorts i_moves) (some (.long res)) 0 0 := by
  refine MX.of (plainFor_of_name (by decide)) (Nat.le_of_ble_eq_true rfl) ?_
  intro p e s m below meth c A X E hI ls hl
  obtain ⟨hx, hb, hml, hown, hts, hr, hlk⟩ := id X
  have hl : lv_has ls 5 [(0, .ref a0), (1, .int l1)] := hl
  unfold f_X4_classesFor at hf
  refine lv_lconst (pc := 0) (v := 0) hx hb dX4_classesFor_0 (by decide) ?_
  refine lv_lstore_n (pc := 1) (lv' := [(2, .long 0), (0, .ref a0), (1, .int l1)]) hx hb dX4_classesFor_1 rfl hl (by decide) rfl (fun ls hl => ?_)
  refine lv_iconst (pc := 2) (v := 0) hx hb dX4_classesFor_2 (by decide) ?_
  refine lv_istore (pc := 3) (lv' := [(4, .int 0), (2, .long 0), (0, .ref a0), (1, .int l1)]) hx hb dX4_classesFor_3 hl (by decide) rfl (fun ls hl => ?_)
  refine k_X4_classesFor_L5 X E (fun l2_1 l4_1 H locs ls hI hl hf => ?_) hI (lv_sub hl [2, 3, 1, 0] rfl) hf
  refine lv_aload_n (pc := 43) hx hb dX4_classesFor_43 rfl (lv_at hl 0 rfl) ?_
  refine x_get (pc := 44) X E hI inX4 0 rfl rfl 3 (by decide) tw_1_132 rfl dX4_classesFor_44 ?_
  refine lv_if_le (pc := 47) (tgt := 60) hx hb dX4_classesFor_47 (by decide) (fun c2 => ?_) (fun c2 => ?_)
  · have hf := q_ip c2 hf
    refine lv_lconst (pc := 60) (v := 0) hx hb dX4_classesFor_60 (by decide) ?_
    obtain rfl := Option.some.inj hf
    exact x_lret X hI dX4_classesFor_61
  · have hf := q_in c2 hf
    refine lv_lload_n (pc := 50) hx hb dX4_classesFor_50 rfl (lv_at hl 2 rfl) ?_
    refine lv_aload_n (pc := 51) hx hb dX4_classesFor_51 rfl (lv_at hl 0 rfl) ?_
    refine x_get (pc := 52) X E hI inX4 0 rfl rfl 3 (by decide) tw_1_132 rfl dX4_classesFor_52 ?_
    refine lv_i2l (pc := 55) (v := (i_moves : Int32).toInt64) hx hb dX4_classesFor_55 rfl ?_
    obtain ⟨t3, e3, hf⟩ := q_ob hf
    refine x_ldiv (pc := 56) X e3 dX4_classesFor_56 ?_
    refine lv_goto (pc := 57) (tgt := 61) hx hb dX4_classesFor_57 (by decide) ?_
    obtain rfl := Option.some.inj hf
    exact x_lret X hI dX4_classesFor_61

abbrev rm_X4_fill : Room := { frames := 2, cells := 0, slots := 0, locals := 62 }
set_option maxHeartbeats 4000000 in
set_option maxRecDepth 100000 in
theorem k_X4_fill_L16 {p : Program} {l : Launch} {e : Env} {s : State} {m : MethodId} {args : Array Value} {below : List Frame} {meth : Method} {c : Code} {A : Nat → Prop} {G : GX} {a0 : Nat} {a1 : Nat} {a2 : Nat} {d0 : Nat} {d1 : Nat} {d2 : Nat} {l2 : Int32} {i_moves : Int32} {v_keys : Nat → Int32} {v_asFound : Nat → Int32} {v_found : Int32} {v_turns : Int32} {v_places : Int32} {K : Int32 → (Nat → Int32) → (Nat → Int32) → Int32 → Option ((Nat → Int32) × (Nat → Int32) × Int32 × Int32)} {res : (Nat → Int32) × (Nat → Int32) × Int32 × Int32} (X : CX RX4 cX4_fill 4 none p s m args meth c) (E : EX G A s)
    (hK : ∀ (l3 : Int32) (i_sort : (Nat → Int32)) (i_howOften : (Nat → Int32)) (i_sorts : Int32) (H : Heap) (locs : List Loc) (ls : Array Slot), IN A G (ivw G a0 a1 a2 d0 d1 d2 i_sort i_howOften i_sorts i_moves v_keys v_asFound v_found v_turns v_places) s H locs → lv_has ls 4 [(0, .ref a0), (1, .ref d0), (2, .int l2), (3, .int l3)] → K l3 i_sort i_howOften i_sorts = some res → W p l e rm_X4_fill s m args below meth c H locs 0 0 (MQ below (QX G A (ivw G a0 a1 a2 d0 d1 d2 res.1 res.2.1 res.2.2.1 res.2.2.2 v_keys v_asFound v_found v_turns v_places) none) args s 0 0 A) (F0 m 61 ls [])) :
    ∀ {k : Nat} {l3 : Int32} {i_sort : (Nat → Int32)} {i_howOften : (Nat → Int32)} {i_sorts : Int32} {H : Heap} {locs : List Loc} {ls : Array Slot}, IN A G (ivw G a0 a1 a2 d0 d1 d2 i_sort i_howOften i_sorts i_moves v_keys v_asFound v_found v_turns v_places) s H locs → lv_has ls 4 [(0, .ref a0), (1, .ref d0), (2, .int l2), (3, .int l3)] → f_X4_fill_L16 l2 v_keys v_found v_places K k l3 i_sort i_howOften i_sorts = some res → W p l e rm_X4_fill s m args below meth c H locs 0 0 (MQ below (QX G A (ivw G a0 a1 a2 d0 d1 d2 res.1 res.2.1 res.2.2.1 res.2.2.2 v_keys v_asFound v_found v_turns v_places) none) args s 0 0 A) (F0 m 16 ls []) := by
  obtain ⟨hx, hb, hml, hown, hts, hr, hlk⟩ := id X
  intro k
  induction k with
  | zero => intro l3 i_sort i_howOften i_sorts H locs ls hI hl hf; exact nomatch (show none = some res from hf)
  | succ k ih =>
    intro l3 i_sort i_howOften i_sorts H locs ls hI hl hf
    rw [f_X4_fill_L16] at hf
    refine lv_iload_n (pc := 16) hx hb dX4_fill_16 rfl (lv_at hl 3 rfl) ?_
    refine lv_aload_n (pc := 17) hx hb dX4_fill_17 rfl (lv_at hl 1 rfl) ?_
    refine x_get (pc := 18) X E hI inX5 3 rfl rfl 2 (by decide) tw_1_101 rfl dX4_fill_18 ?_
    refine lv_icmp_ge (pc := 21) (tgt := 61) hx hb dX4_fill_21 (by decide) (fun c1 => ?_) (fun c1 => ?_)
    · have hf := q_ip c1 hf
      exact hK _ _ _ _ _ _ _ hI (lv_sub hl [0, 1, 2, 3] rfl) hf
    · have hf := q_in c1 hf
      refine lv_aload_n (pc := 24) hx hb dX4_fill_24 rfl (lv_at hl 1 rfl) ?_
      refine x_get (pc := 25) X E hI inX5 3 rfl rfl 0 (by decide) tw_1_98 rfl dX4_fill_25 ?_
      refine lv_iload_n (pc := 28) hx hb dX4_fill_28 rfl (lv_at hl 3 rfl) ?_
      obtain ⟨t2, e2, hf⟩ := q_ob hf
      refine x_iald (pc := 29) X E hI 4 rfl e2 dX4_fill_29 ?_
      refine lv_iconst (pc := 30) (v := 1) hx hb dX4_fill_30 (by decide) ?_
      refine lv_iand (pc := 31) hx hb dX4_fill_31 ?_
      refine lv_iload_n (pc := 32) hx hb dX4_fill_32 rfl (lv_at hl 2 rfl) ?_
      refine lv_icmp_gt (pc := 33) (tgt := 55) hx hb dX4_fill_33 (by decide) (fun c3 => ?_) (fun c3 => ?_)
      · have hf := q_ip c3 hf
        refine lv_iinc (pc := 55) (v := l3 + 1) (lv' := [(3, .int (l3 + 1)), (0, .ref a0), (1, .ref d0), (2, .int l2)]) hx hb dX4_fill_55 hl (k := 3) rfl rfl (by decide) rfl (fun ls hl => ?_)
        refine lv_goto (pc := 58) (tgt := 16) hx hb dX4_fill_58 (by decide) ?_
        exact ih hI (lv_sub hl [1, 2, 3, 0] rfl) hf
      · have hf := q_in c3 hf
        refine lv_aload_n (pc := 36) hx hb dX4_fill_36 rfl (lv_at hl 0 rfl) ?_
        refine lv_aload_n (pc := 37) hx hb dX4_fill_37 rfl (lv_at hl 1 rfl) ?_
        refine x_get (pc := 38) X E hI inX5 3 rfl rfl 0 (by decide) tw_1_98 rfl dX4_fill_38 ?_
        refine lv_iload_n (pc := 41) hx hb dX4_fill_41 rfl (lv_at hl 3 rfl) ?_
        obtain ⟨t4, e4, hf⟩ := q_ob hf
        refine x_iald (pc := 42) X E hI 4 rfl e4 dX4_fill_42 ?_
        refine lv_iconst (pc := 43) (v := 1) hx hb dX4_fill_43 (by decide) ?_
        refine lv_ishr (pc := 44) hx hb dX4_fill_44 ?_
        refine lv_aload_n (pc := 45) hx hb dX4_fill_45 rfl (lv_at hl 1 rfl) ?_
        refine x_get (pc := 46) X E hI inX5 3 rfl rfl 4 (by decide) tw_1_106 rfl dX4_fill_46 ?_
        obtain ⟨t5, e5, hf⟩ := q_ob hf
        refine x_cSn (pc := 49) (st1 := [.int t5, .ref a0]) X E hI (c_X2_cycleType l G e5) ks_X4_40 hd_X2_cycleType ⟨rfl, rfl⟩ (by decide) rfl hl.1 rfl (Nat.le_of_ble_eq_true rfl) dX4_fill_49 ⟨Nat.le_of_ble_eq_true rfl, Nat.le_of_ble_eq_true rfl⟩ rfl (fun H locs hI => ?_)
        obtain ⟨t6, e6, hf⟩ := q_ob hf
        refine x_cVp (pc := 52) (st1 := []) (w2 := (ivw G a0 a1 a2 d0 d1 d2 t6.1 t6.2.1 t6.2.2 i_moves v_keys v_asFound v_found v_turns v_places)) X E hI (c_X4_add l G a0 a1 a2 e6) kv_X4_46 hd_X4_add ⟨rfl, rfl⟩ (by decide) pt_ivw_iw_0 pt_ivw_iw_0q 0 rfl rfl rfl rfl hl.1 rfl (Nat.le_of_ble_eq_true rfl) dX4_fill_52 ⟨Nat.le_of_ble_eq_true rfl, Nat.le_of_ble_eq_true rfl⟩ rfl (fun H locs hI => ?_)
        refine lv_iinc (pc := 55) (v := l3 + 1) (lv' := [(3, .int (l3 + 1)), (0, .ref a0), (1, .ref d0), (2, .int l2)]) hx hb dX4_fill_55 hl (k := 3) rfl rfl (by decide) rfl (fun ls hl => ?_)
        refine lv_goto (pc := 58) (tgt := 16) hx hb dX4_fill_58 (by decide) ?_
        exact ih hI (lv_sub hl [1, 2, 3, 0] rfl) hf

set_option maxHeartbeats 4000000 in
set_option maxRecDepth 100000 in
theorem c_X4_fill (l : Launch) (G : GX) (a0 : Nat) (a1 : Nat) (a2 : Nat) (d0 : Nat) (d1 : Nat) (d2 : Nat) {l2 : Int32} {i_sort : Nat → Int32} {i_howOften : Nat → Int32} {i_sorts : Int32} {i_moves : Int32} {v_keys : Nat → Int32} {v_found : Int32} {v_turns : Int32} {v_places : Int32} {v_asFound : Nat → Int32} {res : (Nat → Int32) × (Nat → Int32) × Int32 × Int32} (hf : f_X4_fill l2 i_sort i_howOften i_sorts i_moves v_keys v_found v_turns v_places = some res) : MX l yX4_fill cX4_fill 4 none rm_X4_fill G (ivw G a0 a1 a2 d0 d1 d2 i_sort i_howOften i_sorts i_moves v_keys v_asFound v_found v_turns v_places) [.ref (a0), .ref (d0), .int l2] (ivw G a0 a1 a2 d0 d1 d2 res.1 res.2.1 res.2.2.1 res.2.2.2 v_keys v_asFound v_found v_turns v_places) none 0 0 := by
  refine MX.of (plainFor_of_name (by decide)) (Nat.le_of_ble_eq_true rfl) ?_
  intro p e s m below meth c A X E hI ls hl
  obtain ⟨hx, hb, hml, hown, hts, hr, hlk⟩ := id X
  have hl : lv_has ls 4 [(0, .ref a0), (1, .ref d0), (2, .int l2)] := hl
  unfold f_X4_fill at hf
  refine lv_aload_n (pc := 0) hx hb dX4_fill_0 rfl (lv_at hl 0 rfl) ?_
  refine lv_iconst (pc := 1) (v := 0) hx hb dX4_fill_1 (by decide) ?_
  refine x_put (pc := 2) (w' := (ivw G a0 a1 a2 d0 d1 d2 i_sort i_howOften 0 i_moves v_keys v_asFound v_found v_turns v_places)) X E hI inX4 tyX4 tyX4_ok nmX4 0 rfl rfl 2 (by decide) tw_1_130 rfl rfl rfl (Nat.le_of_ble_eq_true rfl) rfl dX4_fill_2 (fun H locs hI => ?_)
  refine lv_aload_n (pc := 5) hx hb dX4_fill_5 rfl (lv_at hl 0 rfl) ?_
  refine lv_aload_n (pc := 6) hx hb dX4_fill_6 rfl (lv_at hl 1 rfl) ?_
  refine lv_iload_n (pc := 7) hx hb dX4_fill_7 rfl (lv_at hl 2 rfl) ?_
  obtain ⟨t1, e1, hf⟩ := q_ob hf
  refine x_cVp (pc := 8) (st1 := [.int t1, .ref a0]) (w2 := (ivw G a0 a1 a2 d0 d1 d2 i_sort i_howOften 0 i_moves v_keys v_asFound v_found v_turns v_places)) X E hI (c_X5_howManyBy l G d0 d1 d2 e1) kv_X4_22 hd_X5_howManyBy ⟨rfl, rfl⟩ (by decide) pt_ivw_vw_0 pt_ivw_vw_0q 0 rfl rfl rfl rfl hl.1 rfl (Nat.le_of_ble_eq_true rfl) dX4_fill_8 ⟨Nat.le_of_ble_eq_true rfl, Nat.le_of_ble_eq_true rfl⟩ rfl (fun H locs hI => ?_)
  refine x_put (pc := 11) (w' := (ivw G a0 a1 a2 d0 d1 d2 i_sort i_howOften 0 t1 v_keys v_asFound v_found v_turns v_places)) X E hI inX4 tyX4 tyX4_ok nmX4 0 rfl rfl 3 (by decide) tw_1_132 rfl rfl rfl (Nat.le_of_ble_eq_true rfl) rfl dX4_fill_11 (fun H locs hI => ?_)
  refine lv_iconst (pc := 14) (v := 0) hx hb dX4_fill_14 (by decide) ?_
  refine lv_istore_n (pc := 15) (lv' := [(3, .int 0), (0, .ref a0), (1, .ref d0), (2, .int l2)]) hx hb dX4_fill_15 rfl hl (by decide) rfl (fun ls hl => ?_)
  refine k_X4_fill_L16 X E (fun l3_2 i_sort_2 i_howOften_2 i_sorts_2 H locs ls hI hl hf => ?_) hI (lv_sub hl [1, 2, 3, 0] rfl) hf
  obtain rfl := Option.some.inj hf
  exact x_vret X hI dX4_fill_61

abbrev rm_X1_find : Room := { frames := 2, cells := 1, slots := 4096, locals := 48 }
set_option maxHeartbeats 4000000 in
set_option maxRecDepth 100000 in
theorem k_X1_find_L29 {p : Program} {l : Launch} {e : Env} {s : State} {m : MethodId} {args : Array Value} {below : List Frame} {meth : Method} {c : Code} {A : Nat → Prop} {G : GX} {a0 : Nat} {d0 : Nat} {d1 : Nat} {d2 : Nat} {l2 : Int32} {l3 : Int32} {l4 : Int32} {n_q : Nat} {n_c : Nat} {u_known : Int32} {v_keys : Nat → Int32} {v_asFound : Nat → Int32} {v_found : Int32} {v_turns : Int32} {v_places : Int32} {K : Int32 → Int32 → (Nat → Int32) → Int32 → Option (Nat × (Nat → Int32) × Int32 × Int32)} {res : Nat × (Nat → Int32) × Int32 × Int32} (X : CX RX1 cX1_find 7 none p s m args meth c) (E : EX G A s)
    (hK : ∀ (l5 : Int32) (l6 : Int32) (u_leasts : (Nat → Int32)) (u_howMany : Int32) (H : Heap) (locs : List Loc) (ls : Array Slot), IN A G (cvw G a0 d0 d1 d2 n_q n_c u_leasts u_howMany u_known v_keys v_asFound v_found v_turns v_places) s H locs → lv_has ls 7 [(0, .ref a0), (1, .ref d0), (2, .int l2), (3, .int l3), (4, .int l4), (5, .int l5), (6, .int l6)] → K l5 l6 u_leasts u_howMany = some res → W p l e rm_X1_find s m args below meth c H locs 1 4096 (MQ below (QE G A (fun q : Nat => (cvw G a0 d0 d1 d2 q res.1 res.2.1 res.2.2.1 res.2.2.2 v_keys v_asFound v_found v_turns v_places)) none) args s 1 4096 A) (F0 m 85 ls [])) :
    ∀ {k : Nat} {l5 : Int32} {l6 : Int32} {u_leasts : (Nat → Int32)} {u_howMany : Int32} {H : Heap} {locs : List Loc} {ls : Array Slot}, IN A G (cvw G a0 d0 d1 d2 n_q n_c u_leasts u_howMany u_known v_keys v_asFound v_found v_turns v_places) s H locs → lv_has ls 7 [(0, .ref a0), (1, .ref d0), (2, .int l2), (3, .int l3), (4, .int l4), (5, .int l5), (6, .int l6)] → f_X1_find_L29 l2 l3 l4 n_c v_keys v_found v_places K k l5 l6 u_leasts u_howMany = some res → W p l e rm_X1_find s m args below meth c H locs 1 4096 (MQ below (QE G A (fun q : Nat => (cvw G a0 d0 d1 d2 q res.1 res.2.1 res.2.2.1 res.2.2.2 v_keys v_asFound v_found v_turns v_places)) none) args s 1 4096 A) (F0 m 29 ls []) := by
  obtain ⟨hx, hb, hml, hown, hts, hr, hlk⟩ := id X
  intro k
  induction k with
  | zero => intro l5 l6 u_leasts u_howMany H locs ls hI hl hf; exact nomatch (show none = some res from hf)
  | succ k ih =>
    intro l5 l6 u_leasts u_howMany H locs ls hI hl hf
    rw [f_X1_find_L29] at hf
    refine lv_iload (pc := 29) hx hb dX1_find_29 (lv_at hl 6 rfl) ?_
    refine lv_iload (pc := 31) hx hb dX1_find_31 (lv_at hl 4 rfl) ?_
    refine lv_icmp_ge (pc := 33) (tgt := 85) hx hb dX1_find_33 (by decide) (fun c1 => ?_) (fun c1 => ?_)
    · have hf := q_ip c1 hf
      exact hK _ _ _ _ _ _ _ hI (lv_sub hl [0, 1, 2, 3, 4, 5, 6] rfl) hf
    · have hf := q_in c1 hf
      refine lv_aload_n (pc := 36) hx hb dX1_find_36 rfl (lv_at hl 1 rfl) ?_
      refine lv_iload (pc := 37) hx hb dX1_find_37 (lv_at hl 5 rfl) ?_
      refine lv_iload_n (pc := 39) hx hb dX1_find_39 rfl (lv_at hl 2 rfl) ?_
      obtain ⟨t2, e2, hf⟩ := q_ob hf
      refine x_cVp (pc := 40) (st1 := [.int t2]) (w2 := (cvw G a0 d0 d1 d2 n_q n_c u_leasts u_howMany u_known v_keys v_asFound v_found v_turns v_places)) X E hI (c_X5_isLeast l G d0 d1 d2 e2) kv_X1_17 hd_X5_isLeast ⟨rfl, rfl⟩ (by decide) pt_cvw_vw_0 pt_cvw_vw_0q 0 rfl rfl rfl rfl hl.1 rfl (Nat.le_of_ble_eq_true rfl) dX1_find_40 ⟨Nat.le_of_ble_eq_true rfl, Nat.le_of_ble_eq_true rfl⟩ rfl (fun H locs hI => ?_)
      refine lv_if_eq (pc := 43) (tgt := 67) hx hb dX1_find_43 (by decide) (fun c3 => ?_) (fun c3 => ?_)
      · have hf := q_ip c3 hf
        refine lv_iload (pc := 67) hx hb dX1_find_67 (lv_at hl 5 rfl) ?_
        refine lv_aload_n (pc := 69) hx hb dX1_find_69 rfl (lv_at hl 1 rfl) ?_
        refine x_get (pc := 70) X E hI inX5 2 rfl rfl 4 (by decide) tw_1_107 rfl dX1_find_70 ?_
        refine lv_iload_n (pc := 73) hx hb dX1_find_73 rfl (lv_at hl 3 rfl) ?_
        obtain ⟨t4, e4, hf⟩ := q_ob hf
        refine x_cSn (pc := 74) (st1 := [.int t4]) X E hI (c_X2_nextPainting l G e4) ks_X1_26 hd_X2_nextPainting ⟨rfl, rfl⟩ (by decide) rfl hl.1 rfl (Nat.le_of_ble_eq_true rfl) dX1_find_74 ⟨Nat.le_of_ble_eq_true rfl, Nat.le_of_ble_eq_true rfl⟩ rfl (fun H locs hI => ?_)
        refine lv_istore (pc := 77) (lv' := [(5, .int t4), (0, .ref a0), (1, .ref d0), (2, .int l2), (3, .int l3), (4, .int l4), (6, .int l6)]) hx hb dX1_find_77 hl (by decide) rfl (fun ls hl => ?_)
        refine lv_iinc (pc := 79) (v := l6 + 1) (lv' := [(6, .int (l6 + 1)), (5, .int t4), (0, .ref a0), (1, .ref d0), (2, .int l2), (3, .int l3), (4, .int l4)]) hx hb dX1_find_79 hl (k := 6) rfl rfl (by decide) rfl (fun ls hl => ?_)
        refine lv_goto (pc := 82) (tgt := 29) hx hb dX1_find_82 (by decide) ?_
        exact ih hI (lv_sub hl [2, 3, 4, 5, 6, 1, 0] rfl) hf
      · have hf := q_in c3 hf
        refine lv_aload_n (pc := 46) hx hb dX1_find_46 rfl (lv_at hl 0 rfl) ?_
        refine x_get (pc := 47) X E hI inX1 0 rfl rfl 0 (by decide) tw_1_149 rfl dX1_find_47 ?_
        refine lv_aload_n (pc := 50) hx hb dX1_find_50 rfl (lv_at hl 0 rfl) ?_
        refine x_get (pc := 51) X E hI inX1 0 rfl rfl 1 (by decide) tw_1_151 rfl dX1_find_51 ?_
        refine lv_iload (pc := 54) hx hb dX1_find_54 (lv_at hl 5 rfl) ?_
        obtain ⟨t5, e5, hf⟩ := q_ob hf
        refine x_iast (pc := 56) (w' := (cvw G a0 d0 d1 d2 n_q n_c t5 u_howMany u_known v_keys v_asFound v_found v_turns v_places)) X E hI 1 rfl e5 rfl dX1_find_56 (fun H locs hI => ?_)
        refine lv_aload_n (pc := 57) hx hb dX1_find_57 rfl (lv_at hl 0 rfl) ?_
        refine lv_dup (pc := 58) hx hb dX1_find_58 rfl ?_
        refine x_get (pc := 59) X E hI inX1 0 rfl rfl 1 (by decide) tw_1_151 rfl dX1_find_59 ?_
        refine lv_iconst (pc := 62) (v := 1) hx hb dX1_find_62 (by decide) ?_
        refine lv_iadd (pc := 63) hx hb dX1_find_63 ?_
        refine x_put (pc := 64) (w' := (cvw G a0 d0 d1 d2 n_q n_c t5 (u_howMany + 1) u_known v_keys v_asFound v_found v_turns v_places)) X E hI inX1 tyX1 tyX1_ok nmX1 0 rfl rfl 1 (by decide) tw_1_151 rfl rfl rfl (Nat.le_of_ble_eq_true rfl) rfl dX1_find_64 (fun H locs hI => ?_)
        refine lv_iload (pc := 67) hx hb dX1_find_67 (lv_at hl 5 rfl) ?_
        refine lv_aload_n (pc := 69) hx hb dX1_find_69 rfl (lv_at hl 1 rfl) ?_
        refine x_get (pc := 70) X E hI inX5 2 rfl rfl 4 (by decide) tw_1_107 rfl dX1_find_70 ?_
        refine lv_iload_n (pc := 73) hx hb dX1_find_73 rfl (lv_at hl 3 rfl) ?_
        obtain ⟨t6, e6, hf⟩ := q_ob hf
        refine x_cSn (pc := 74) (st1 := [.int t6]) X E hI (c_X2_nextPainting l G e6) ks_X1_26 hd_X2_nextPainting ⟨rfl, rfl⟩ (by decide) rfl hl.1 rfl (Nat.le_of_ble_eq_true rfl) dX1_find_74 ⟨Nat.le_of_ble_eq_true rfl, Nat.le_of_ble_eq_true rfl⟩ rfl (fun H locs hI => ?_)
        refine lv_istore (pc := 77) (lv' := [(5, .int t6), (0, .ref a0), (1, .ref d0), (2, .int l2), (3, .int l3), (4, .int l4), (6, .int l6)]) hx hb dX1_find_77 hl (by decide) rfl (fun ls hl => ?_)
        refine lv_iinc (pc := 79) (v := l6 + 1) (lv' := [(6, .int (l6 + 1)), (5, .int t6), (0, .ref a0), (1, .ref d0), (2, .int l2), (3, .int l3), (4, .int l4)]) hx hb dX1_find_79 hl (k := 6) rfl rfl (by decide) rfl (fun ls hl => ?_)
        refine lv_goto (pc := 82) (tgt := 29) hx hb dX1_find_82 (by decide) ?_
        exact ih hI (lv_sub hl [2, 3, 4, 5, 6, 1, 0] rfl) hf

set_option maxHeartbeats 4000000 in
set_option maxRecDepth 100000 in
theorem c_X1_find (l : Launch) (G : GX) (a0 : Nat) (d0 : Nat) (d1 : Nat) (d2 : Nat) {l2 : Int32} {l3 : Int32} {l4 : Int32} {n_c : Nat} {u_leasts : Nat → Int32} {u_howMany : Int32} {u_known : Int32} {v_keys : Nat → Int32} {v_found : Int32} {v_places : Int32} {n_q : Nat} {v_asFound : Nat → Int32} {v_turns : Int32} {res : Nat × (Nat → Int32) × Int32 × Int32} (hf : f_X1_find l2 l3 l4 n_c u_leasts u_howMany u_known v_keys v_found v_places = some res) : ME l yX1_find cX1_find 7 none rm_X1_find G (cvw G a0 d0 d1 d2 n_q n_c u_leasts u_howMany u_known v_keys v_asFound v_found v_turns v_places) [.ref (a0), .ref (d0), .int l2, .int l3, .int l4] (fun q : Nat => (cvw G a0 d0 d1 d2 q res.1 res.2.1 res.2.2.1 res.2.2.2 v_keys v_asFound v_found v_turns v_places)) none 1 4096 := by
  refine ME.of (plainFor_of_name (by decide)) (Nat.le_of_ble_eq_true rfl) ?_
  intro p e s m below meth c A X E hI ls hl
  obtain ⟨hx, hb, hml, hown, hts, hr, hlk⟩ := id X
  have hl : lv_has ls 7 [(0, .ref a0), (1, .ref d0), (2, .int l2), (3, .int l3), (4, .int l4)] := hl
  unfold f_X1_find at hf
  refine lv_aload_n (pc := 0) hx hb dX1_find_0 rfl (lv_at hl 0 rfl) ?_
  refine x_get (pc := 1) X E hI inX1 0 rfl rfl 0 (by decide) tw_1_149 rfl dX1_find_1 ?_
  refine x_alen (pc := 4) X E hI 1 rfl (v := Int32.ofNat n_c) rfl dX1_find_4 ?_
  refine lv_iload (pc := 5) hx hb dX1_find_5 (lv_at hl 4 rfl) ?_
  refine lv_icmp_ge (pc := 7) (tgt := 18) hx hb dX1_find_7 (by decide) (fun c1 => ?_) (fun c1 => ?_)
  · have hf := q_ip c1 hf
    refine W.widen (k := 1) (n := 4096) (by decide) (by decide) ?_
    refine lv_aload_n (pc := 18) hx hb dX1_find_18 rfl (lv_at hl 0 rfl) ?_
    refine lv_iconst (pc := 19) (v := 0) hx hb dX1_find_19 (by decide) ?_
    refine x_put (pc := 20) (w' := (cvw G a0 d0 d1 d2 n_q n_c u_leasts 0 u_known v_keys v_asFound v_found v_turns v_places)) X E hI inX1 tyX1 tyX1_ok nmX1 0 rfl rfl 1 (by decide) tw_1_151 rfl rfl rfl (Nat.le_of_ble_eq_true rfl) rfl dX1_find_20 (fun H locs hI => ?_)
    refine lv_iconst (pc := 23) (v := 0) hx hb dX1_find_23 (by decide) ?_
    refine lv_istore (pc := 24) (lv' := [(5, .int 0), (0, .ref a0), (1, .ref d0), (2, .int l2), (3, .int l3), (4, .int l4)]) hx hb dX1_find_24 hl (by decide) rfl (fun ls hl => ?_)
    refine lv_iconst (pc := 26) (v := 0) hx hb dX1_find_26 (by decide) ?_
    refine lv_istore (pc := 27) (lv' := [(6, .int 0), (5, .int 0), (0, .ref a0), (1, .ref d0), (2, .int l2), (3, .int l3), (4, .int l4)]) hx hb dX1_find_27 hl (by decide) rfl (fun ls hl => ?_)
    refine k_X1_find_L29 X E (fun l5_2 l6_2 u_leasts_2 u_howMany_2 H locs ls hI hl hf => ?_) hI (lv_sub hl [2, 3, 4, 5, 6, 1, 0] rfl) hf
    refine lv_aload_n (pc := 85) hx hb dX1_find_85 rfl (lv_at hl 0 rfl) ?_
    refine lv_iconst (pc := 86) (v := 1) hx hb dX1_find_86 (by decide) ?_
    refine x_put (pc := 87) (w' := (cvw G a0 d0 d1 d2 n_q n_c u_leasts_2 u_howMany_2 1 v_keys v_asFound v_found v_turns v_places)) X E hI inX1 tyX1 tyX1_ok nmX1 0 rfl rfl 2 (by decide) tw_1_153 rfl rfl rfl (Nat.le_of_ble_eq_true rfl) rfl dX1_find_87 (fun H locs hI => ?_)
    obtain rfl := Option.some.inj hf
    exact x_vretE n_q X hI dX1_find_90
  · have hf := q_in c1 hf
    refine lv_aload_n (pc := 10) hx hb dX1_find_10 rfl (lv_at hl 0 rfl) ?_
    refine lv_iload (pc := 11) hx hb dX1_find_11 (lv_at hl 4 rfl) ?_
    obtain ⟨t3, e3, hf⟩ := q_ob hf
    obtain ⟨hn1, hn2, hn3⟩ := q_nw_i e3
    refine x_newI (pc := 13) X E hI tw_1_90 hn1 hn2 (by omega) (by decide) (by show 0 + t3 ≤ 4096; omega) dX1_find_13 (fun q3 H hI => ?_)
    refine W.widen (k := 1) (n := 4096) (by decide) (by omega) ?_
    refine x_put (pc := 15) (w' := (((cvw G a0 d0 d1 d2 n_q n_c u_leasts u_howMany u_known v_keys v_asFound v_found v_turns v_places) ++ ([(q3, .inl (G.2.1.1, t3, .inl (fun _ => 0)))] : va_W)).set 0 (a0, .inr (0, [.ref (q3), .int u_howMany, .int u_known])))) X E hI inX1 tyX1 tyX1_ok nmX1 0 rfl rfl 0 (by decide) tw_1_149 rfl rfl rfl (Nat.le_of_ble_eq_true rfl) rfl dX1_find_15 (fun H locs hI => ?_)
    have hI : IN A G (cvw G a0 d0 d1 d2 q3 t3 (fun _ => 0) u_howMany u_known v_keys v_asFound v_found v_turns v_places) s H locs := IN.sub hI [0, 5, 2, 3, 4] rfl rfl
    refine lv_aload_n (pc := 18) hx hb dX1_find_18 rfl (lv_at hl 0 rfl) ?_
    refine lv_iconst (pc := 19) (v := 0) hx hb dX1_find_19 (by decide) ?_
    refine x_put (pc := 20) (w' := (cvw G a0 d0 d1 d2 q3 t3 (fun _ => 0) 0 u_known v_keys v_asFound v_found v_turns v_places)) X E hI inX1 tyX1 tyX1_ok nmX1 0 rfl rfl 1 (by decide) tw_1_151 rfl rfl rfl (Nat.le_of_ble_eq_true rfl) rfl dX1_find_20 (fun H locs hI => ?_)
    refine lv_iconst (pc := 23) (v := 0) hx hb dX1_find_23 (by decide) ?_
    refine lv_istore (pc := 24) (lv' := [(5, .int 0), (0, .ref a0), (1, .ref d0), (2, .int l2), (3, .int l3), (4, .int l4)]) hx hb dX1_find_24 hl (by decide) rfl (fun ls hl => ?_)
    refine lv_iconst (pc := 26) (v := 0) hx hb dX1_find_26 (by decide) ?_
    refine lv_istore (pc := 27) (lv' := [(6, .int 0), (5, .int 0), (0, .ref a0), (1, .ref d0), (2, .int l2), (3, .int l3), (4, .int l4)]) hx hb dX1_find_27 hl (by decide) rfl (fun ls hl => ?_)
    refine k_X1_find_L29 X E (fun l5_4 l6_4 u_leasts_4 u_howMany_4 H locs ls hI hl hf => ?_) hI (lv_sub hl [2, 3, 4, 5, 6, 1, 0] rfl) hf
    refine lv_aload_n (pc := 85) hx hb dX1_find_85 rfl (lv_at hl 0 rfl) ?_
    refine lv_iconst (pc := 86) (v := 1) hx hb dX1_find_86 (by decide) ?_
    refine x_put (pc := 87) (w' := (cvw G a0 d0 d1 d2 q3 t3 u_leasts_4 u_howMany_4 1 v_keys v_asFound v_found v_turns v_places)) X E hI inX1 tyX1 tyX1_ok nmX1 0 rfl rfl 2 (by decide) tw_1_153 rfl rfl rfl (Nat.le_of_ble_eq_true rfl) rfl dX1_find_87 (fun H locs hI => ?_)
    obtain rfl := Option.some.inj hf
    exact x_vretE q3 X hI dX1_find_90

abbrev rm_X8_because : Room := { frames := 0, cells := 0, slots := 0, locals := 0 }
set_option maxHeartbeats 4000000 in
set_option maxRecDepth 100000 in
theorem c_X8_because (l : Launch) (G : GX) (a0 : Nat) (a1 : Nat) (a2 : Nat) {l1 : Int32} {l2 : Int32} {r_sorts : Nat → Int32} {r_numbers : Nat → Int32} {r_length : Int32} {res : (Nat → Int32) × (Nat → Int32) × Int32} (hf : f_X8_because l1 l2 r_sorts r_numbers r_length = some res) : MX l yX8_because cX8_because 3 none rm_X8_because G (trw G a0 a1 a2 r_sorts r_numbers r_length) [.ref (a0), .int l1, .int l2] (trw G a0 a1 a2 res.1 res.2.1 res.2.2) none 0 0 := by
  refine MX.of (plainFor_of_name (by decide)) (Nat.le_of_ble_eq_true rfl) ?_
  intro p e s m below meth c A X E hI ls hl
  obtain ⟨hx, hb, hml, hown, hts, hr, hlk⟩ := id X
  have hl : lv_has ls 3 [(0, .ref a0), (1, .int l1), (2, .int l2)] := hl
  unfold f_X8_because at hf
  refine lv_aload_n (pc := 0) hx hb dX8_because_0 rfl (lv_at hl 0 rfl) ?_
  refine x_get (pc := 1) X E hI inX8 0 rfl rfl 2 (by decide) tw_1_196 rfl dX8_because_1 ?_
  refine lv_aload_n (pc := 4) hx hb dX8_because_4 rfl (lv_at hl 0 rfl) ?_
  refine x_get (pc := 5) X E hI inX8 0 rfl rfl 0 (by decide) tw_1_192 rfl dX8_because_5 ?_
  refine x_alen (pc := 8) X E hI 1 rfl (v := 3) rfl dX8_because_8 ?_
  refine lv_icmp_ge (pc := 9) (tgt := 42) hx hb dX8_because_9 (by decide) (fun c1 => ?_) (fun c1 => ?_)
  · have hf := q_ip c1 hf
    obtain rfl := Option.some.inj hf
    exact x_vret X hI dX8_because_42
  · have hf := q_in c1 hf
    refine lv_aload_n (pc := 12) hx hb dX8_because_12 rfl (lv_at hl 0 rfl) ?_
    refine x_get (pc := 13) X E hI inX8 0 rfl rfl 0 (by decide) tw_1_192 rfl dX8_because_13 ?_
    refine lv_aload_n (pc := 16) hx hb dX8_because_16 rfl (lv_at hl 0 rfl) ?_
    refine x_get (pc := 17) X E hI inX8 0 rfl rfl 2 (by decide) tw_1_196 rfl dX8_because_17 ?_
    refine lv_iload_n (pc := 20) hx hb dX8_because_20 rfl (lv_at hl 1 rfl) ?_
    obtain ⟨t2, e2, hf⟩ := q_ob hf
    refine x_iast (pc := 21) (w' := (trw G a0 a1 a2 t2 r_numbers r_length)) X E hI 1 rfl e2 rfl dX8_because_21 (fun H locs hI => ?_)
    refine lv_aload_n (pc := 22) hx hb dX8_because_22 rfl (lv_at hl 0 rfl) ?_
    refine x_get (pc := 23) X E hI inX8 0 rfl rfl 1 (by decide) tw_1_194 rfl dX8_because_23 ?_
    refine lv_aload_n (pc := 26) hx hb dX8_because_26 rfl (lv_at hl 0 rfl) ?_
    refine x_get (pc := 27) X E hI inX8 0 rfl rfl 2 (by decide) tw_1_196 rfl dX8_because_27 ?_
    refine lv_iload_n (pc := 30) hx hb dX8_because_30 rfl (lv_at hl 2 rfl) ?_
    obtain ⟨t3, e3, hf⟩ := q_ob hf
    refine x_iast (pc := 31) (w' := (trw G a0 a1 a2 t2 t3 r_length)) X E hI 2 rfl e3 rfl dX8_because_31 (fun H locs hI => ?_)
    refine lv_aload_n (pc := 32) hx hb dX8_because_32 rfl (lv_at hl 0 rfl) ?_
    refine lv_dup (pc := 33) hx hb dX8_because_33 rfl ?_
    refine x_get (pc := 34) X E hI inX8 0 rfl rfl 2 (by decide) tw_1_196 rfl dX8_because_34 ?_
    refine lv_iconst (pc := 37) (v := 1) hx hb dX8_because_37 (by decide) ?_
    refine lv_iadd (pc := 38) hx hb dX8_because_38 ?_
    refine x_put (pc := 39) (w' := (trw G a0 a1 a2 t2 t3 (r_length + 1))) X E hI inX8 tyX8 tyX8_ok nmX8 0 rfl rfl 2 (by decide) tw_1_196 rfl rfl rfl (Nat.le_of_ble_eq_true rfl) rfl dX8_because_39 (fun H locs hI => ?_)
    obtain rfl := Option.some.inj hf
    exact x_vret X hI dX8_because_42

abbrev rm_X8_begin : Room := { frames := 1, cells := 0, slots := 0, locals := 22 }
set_option maxHeartbeats 4000000 in
set_option maxRecDepth 100000 in
theorem c_X8_begin (l : Launch) (G : GX) (a0 : Nat) (a1 : Nat) (a2 : Nat) {l1 : Int32} {l2 : Int32} {r_sorts : Nat → Int32} {r_numbers : Nat → Int32} {r_length : Int32} {res : (Nat → Int32) × (Nat → Int32) × Int32} (hf : f_X8_begin l1 l2 r_sorts r_numbers r_length = some res) : MX l yX8_begin cX8_begin 3 none rm_X8_begin G (trw G a0 a1 a2 r_sorts r_numbers r_length) [.ref (a0), .int l1, .int l2] (trw G a0 a1 a2 res.1 res.2.1 res.2.2) none 0 0 := by
  refine MX.of (plainFor_of_name (by decide)) (Nat.le_of_ble_eq_true rfl) ?_
  intro p e s m below meth c A X E hI ls hl
  obtain ⟨hx, hb, hml, hown, hts, hr, hlk⟩ := id X
  have hl : lv_has ls 3 [(0, .ref a0), (1, .int l1), (2, .int l2)] := hl
  unfold f_X8_begin at hf
  refine lv_aload_n (pc := 0) hx hb dX8_begin_0 rfl (lv_at hl 0 rfl) ?_
  refine lv_iconst (pc := 1) (v := 0) hx hb dX8_begin_1 (by decide) ?_
  refine x_put (pc := 2) (w' := (trw G a0 a1 a2 r_sorts r_numbers 0)) X E hI inX8 tyX8 tyX8_ok nmX8 0 rfl rfl 2 (by decide) tw_1_196 rfl rfl rfl (Nat.le_of_ble_eq_true rfl) rfl dX8_begin_2 (fun H locs hI => ?_)
  refine lv_aload_n (pc := 5) hx hb dX8_begin_5 rfl (lv_at hl 0 rfl) ?_
  refine lv_iload_n (pc := 6) hx hb dX8_begin_6 rfl (lv_at hl 1 rfl) ?_
  refine lv_iload_n (pc := 7) hx hb dX8_begin_7 rfl (lv_at hl 2 rfl) ?_
  obtain ⟨t1, e1, hf⟩ := q_ob hf
  refine x_cVs (pc := 8) (st1 := []) (w1 := (trw G a0 a1 a2 t1.1 t1.2.1 t1.2.2)) X E hI (c_X8_because l G a0 a1 a2 e1) kv_X8_20 hd_X8_because ⟨rfl, rfl⟩ (by decide) 0 rfl rfl rfl rfl hl.1 rfl (Nat.le_of_ble_eq_true rfl) dX8_begin_8 ⟨Nat.le_of_ble_eq_true rfl, Nat.le_of_ble_eq_true rfl⟩ rfl (fun H locs hI => ?_)
  obtain rfl := Option.some.inj hf
  exact x_vret X hI dX8_begin_11

abbrev rm_X7_mostDigits : Room := { frames := 0, cells := 0, slots := 0, locals := 0 }
set_option maxHeartbeats 4000000 in
set_option maxRecDepth 100000 in
theorem c_X7_mostDigits (l : Launch) (G : GX)  {l0 : Int32} {res : Int32} (hf : f_X7_mostDigits l0 = some res) : MX l yX7_mostDigits cX7_mostDigits 1 (some .int) rm_X7_mostDigits G [] [.int l0] [] (some (.int res)) 0 0 := by
  refine MX.of (plainFor_of_name (by decide)) (Nat.le_of_ble_eq_true rfl) ?_
  intro p e s m below meth c A X E hI ls hl
  obtain ⟨hx, hb, hml, hown, hts, hr, hlk⟩ := id X
  have hl : lv_has ls 1 [(0, .int l0)] := hl
  unfold f_X7_mostDigits at hf
  refine lv_iload_n (pc := 0) hx hb dX7_mostDigits_0 rfl (lv_at hl 0 rfl) ?_
  rcases Decidable.em (l0 = 107) with c1 | c1
  · refine lv_tableIn (pc := 1) (tgt := 68) hx hb dX7_mostDigits_1 (by rw [c1]; decide) (by rw [c1]; decide) (by rw [c1]; rfl) (by decide) ?_
    have hf := q_ip c1 hf
    refine lv_iconst (pc := 68) (v := 1) hx hb dX7_mostDigits_68 (by decide) ?_
    obtain rfl := Option.some.inj hf
    exact x_iret X hI dX7_mostDigits_69
  · have hf := q_in c1 hf
    rcases Decidable.em (l0 = 109) with c2 | c2
    · refine lv_tableIn (pc := 1) (tgt := 72) hx hb dX7_mostDigits_1 (by rw [c2]; decide) (by rw [c2]; decide) (by rw [c2]; rfl) (by decide) ?_
      have hf := q_ip c2 hf
      refine lv_bipush (pc := 72) (v := 6) hx hb dX7_mostDigits_72 (by decide) ?_
      obtain rfl := Option.some.inj hf
      exact x_iret X hI dX7_mostDigits_74
    · have hf := q_in c2 hf
      rcases Decidable.em (l0 = 110) with c3 | c3
      · refine lv_tableIn (pc := 1) (tgt := 68) hx hb dX7_mostDigits_1 (by rw [c3]; decide) (by rw [c3]; decide) (by rw [c3]; rfl) (by decide) ?_
        have hf := q_ip c3 hf
        refine lv_iconst (pc := 68) (v := 1) hx hb dX7_mostDigits_68 (by decide) ?_
        obtain rfl := Option.some.inj hf
        exact x_iret X hI dX7_mostDigits_69
      · have hf := q_in c3 hf
        rcases Decidable.em (l0 = 116) with c4 | c4
        · refine lv_tableIn (pc := 1) (tgt := 72) hx hb dX7_mostDigits_1 (by rw [c4]; decide) (by rw [c4]; decide) (by rw [c4]; rfl) (by decide) ?_
          have hf := q_ip c4 hf
          refine lv_bipush (pc := 72) (v := 6) hx hb dX7_mostDigits_72 (by decide) ?_
          obtain rfl := Option.some.inj hf
          exact x_iret X hI dX7_mostDigits_74
        · have hf := q_in c4 hf
          rcases Decidable.em (l0 = 119) with c5 | c5
          · refine lv_tableIn (pc := 1) (tgt := 70) hx hb dX7_mostDigits_1 (by rw [c5]; decide) (by rw [c5]; decide) (by rw [c5]; rfl) (by decide) ?_
            have hf := q_ip c5 hf
            refine lv_iconst (pc := 70) (v := 2) hx hb dX7_mostDigits_70 (by decide) ?_
            obtain rfl := Option.some.inj hf
            exact x_iret X hI dX7_mostDigits_71
          · have hf := q_in c5 hf
            rcases Decidable.em (l0 = 108) with c6 | c6
            · refine lv_tableIn (pc := 1) (tgt := 75) hx hb dX7_mostDigits_1 (by rw [c6]; decide) (by rw [c6]; decide) (by rw [c6]; rfl) (by decide) ?_
              refine lv_iconst (pc := 75) (v := 0) hx hb dX7_mostDigits_75 (by decide) ?_
              obtain rfl := Option.some.inj hf
              exact x_iret X hI dX7_mostDigits_76
            · rcases Decidable.em (l0 = 111) with c7 | c7
              · refine lv_tableIn (pc := 1) (tgt := 75) hx hb dX7_mostDigits_1 (by rw [c7]; decide) (by rw [c7]; decide) (by rw [c7]; rfl) (by decide) ?_
                refine lv_iconst (pc := 75) (v := 0) hx hb dX7_mostDigits_75 (by decide) ?_
                obtain rfl := Option.some.inj hf
                exact x_iret X hI dX7_mostDigits_76
              · rcases Decidable.em (l0 = 112) with c8 | c8
                · refine lv_tableIn (pc := 1) (tgt := 75) hx hb dX7_mostDigits_1 (by rw [c8]; decide) (by rw [c8]; decide) (by rw [c8]; rfl) (by decide) ?_
                  refine lv_iconst (pc := 75) (v := 0) hx hb dX7_mostDigits_75 (by decide) ?_
                  obtain rfl := Option.some.inj hf
                  exact x_iret X hI dX7_mostDigits_76
                · rcases Decidable.em (l0 = 113) with c9 | c9
                  · refine lv_tableIn (pc := 1) (tgt := 75) hx hb dX7_mostDigits_1 (by rw [c9]; decide) (by rw [c9]; decide) (by rw [c9]; rfl) (by decide) ?_
                    refine lv_iconst (pc := 75) (v := 0) hx hb dX7_mostDigits_75 (by decide) ?_
                    obtain rfl := Option.some.inj hf
                    exact x_iret X hI dX7_mostDigits_76
                  · rcases Decidable.em (l0 = 114) with c10 | c10
                    · refine lv_tableIn (pc := 1) (tgt := 75) hx hb dX7_mostDigits_1 (by rw [c10]; decide) (by rw [c10]; decide) (by rw [c10]; rfl) (by decide) ?_
                      refine lv_iconst (pc := 75) (v := 0) hx hb dX7_mostDigits_75 (by decide) ?_
                      obtain rfl := Option.some.inj hf
                      exact x_iret X hI dX7_mostDigits_76
                    · rcases Decidable.em (l0 = 115) with c11 | c11
                      · refine lv_tableIn (pc := 1) (tgt := 75) hx hb dX7_mostDigits_1 (by rw [c11]; decide) (by rw [c11]; decide) (by rw [c11]; rfl) (by decide) ?_
                        refine lv_iconst (pc := 75) (v := 0) hx hb dX7_mostDigits_75 (by decide) ?_
                        obtain rfl := Option.some.inj hf
                        exact x_iret X hI dX7_mostDigits_76
                      · rcases Decidable.em (l0 = 117) with c12 | c12
                        · refine lv_tableIn (pc := 1) (tgt := 75) hx hb dX7_mostDigits_1 (by rw [c12]; decide) (by rw [c12]; decide) (by rw [c12]; rfl) (by decide) ?_
                          refine lv_iconst (pc := 75) (v := 0) hx hb dX7_mostDigits_75 (by decide) ?_
                          obtain rfl := Option.some.inj hf
                          exact x_iret X hI dX7_mostDigits_76
                        · rcases Decidable.em (l0 = 118) with c13 | c13
                          · refine lv_tableIn (pc := 1) (tgt := 75) hx hb dX7_mostDigits_1 (by rw [c13]; decide) (by rw [c13]; decide) (by rw [c13]; rfl) (by decide) ?_
                            refine lv_iconst (pc := 75) (v := 0) hx hb dX7_mostDigits_75 (by decide) ?_
                            obtain rfl := Option.some.inj hf
                            exact x_iret X hI dX7_mostDigits_76
                          · refine lv_tableOut (pc := 1) (tgt := 75) hx hb dX7_mostDigits_1 (q_out_107_119 c1 c6 c2 c3 c7 c8 c9 c10 c11 c4 c12 c13 c5) (by decide) ?_
                            refine lv_iconst (pc := 75) (v := 0) hx hb dX7_mostDigits_75 (by decide) ?_
                            obtain rfl := Option.some.inj hf
                            exact x_iret X hI dX7_mostDigits_76

abbrev rm_X7_fewestDigits : Room := { frames := 0, cells := 0, slots := 0, locals := 0 }
set_option maxHeartbeats 4000000 in
set_option maxRecDepth 100000 in
theorem c_X7_fewestDigits (l : Launch) (G : GX)  {l0 : Int32} {res : Int32} (hf : f_X7_fewestDigits l0 = some res) : MX l yX7_fewestDigits cX7_fewestDigits 1 (some .int) rm_X7_fewestDigits G [] [.int l0] [] (some (.int res)) 0 0 := by
  refine MX.of (plainFor_of_name (by decide)) (Nat.le_of_ble_eq_true rfl) ?_
  intro p e s m below meth c A X E hI ls hl
  obtain ⟨hx, hb, hml, hown, hts, hr, hlk⟩ := id X
  have hl : lv_has ls 1 [(0, .int l0)] := hl
  unfold f_X7_fewestDigits at hf
  refine lv_iload_n (pc := 0) hx hb dX7_fewestDigits_0 rfl (lv_at hl 0 rfl) ?_
  refine lv_bipush (pc := 1) (v := 119) hx hb dX7_fewestDigits_1 (by decide) ?_
  refine lv_icmp_ne (pc := 3) (tgt := 10) hx hb dX7_fewestDigits_3 (by decide) (fun c1 => ?_) (fun c1 => ?_)
  · have hf := q_in c1 hf
    refine lv_iconst (pc := 10) (v := 1) hx hb dX7_fewestDigits_10 (by decide) ?_
    obtain rfl := Option.some.inj hf
    exact x_iret X hI dX7_fewestDigits_11
  · have hf := q_ip c1 hf
    refine lv_iconst (pc := 6) (v := 2) hx hb dX7_fewestDigits_6 (by decide) ?_
    refine lv_goto (pc := 7) (tgt := 11) hx hb dX7_fewestDigits_7 (by decide) ?_
    obtain rfl := Option.some.inj hf
    exact x_iret X hI dX7_fewestDigits_11

abbrev rm_X7_add : Room := { frames := 0, cells := 0, slots := 0, locals := 0 }
set_option maxHeartbeats 4000000 in
set_option maxRecDepth 100000 in
theorem c_X7_add (l : Launch) (G : GX) (a0 : Nat) (a1 : Nat) (a2 : Nat) (a3 : Nat) {l1 : Int32} {t_signs : Nat → Int32} {t_length : Int32} {t_whole : Int32} {t_begins : Nat → Int32} {t_ends : Nat → Int32} {res : Int32 × (Nat → Int32) × Int32} (hf : f_X7_add l1 t_signs t_length = some res) : MX l yX7_add cX7_add 2 (some .boolean) rm_X7_add G (txw G a0 a1 a2 a3 t_signs t_length t_whole t_begins t_ends) [.ref (a0), .int l1] (txw G a0 a1 a2 a3 res.2.1 res.2.2 t_whole t_begins t_ends) (some (.int res.1)) 0 0 := by
  refine MX.of (plainFor_of_name (by decide)) (Nat.le_of_ble_eq_true rfl) ?_
  intro p e s m below meth c A X E hI ls hl
  obtain ⟨hx, hb, hml, hown, hts, hr, hlk⟩ := id X
  have hl : lv_has ls 2 [(0, .ref a0), (1, .int l1)] := hl
  unfold f_X7_add at hf
  refine lv_aload_n (pc := 0) hx hb dX7_add_0 rfl (lv_at hl 0 rfl) ?_
  refine x_get (pc := 1) X E hI inX7 0 rfl rfl 1 (by decide) tw_1_169 rfl dX7_add_1 ?_
  refine lv_bipush (pc := 4) (v := 100) hx hb dX7_add_4 (by decide) ?_
  refine lv_icmp_lt (pc := 6) (tgt := 11) hx hb dX7_add_6 (by decide) (fun c1 => ?_) (fun c1 => ?_)
  · have hf := q_ip c1 hf
    refine lv_aload_n (pc := 11) hx hb dX7_add_11 rfl (lv_at hl 0 rfl) ?_
    refine x_get (pc := 12) X E hI inX7 0 rfl rfl 0 (by decide) tw_1_168 rfl dX7_add_12 ?_
    refine lv_aload_n (pc := 15) hx hb dX7_add_15 rfl (lv_at hl 0 rfl) ?_
    refine x_get (pc := 16) X E hI inX7 0 rfl rfl 1 (by decide) tw_1_169 rfl dX7_add_16 ?_
    refine lv_iload_n (pc := 19) hx hb dX7_add_19 rfl (lv_at hl 1 rfl) ?_
    obtain ⟨t2, e2, hf⟩ := q_ob hf
    refine x_iast (pc := 20) (w' := (txw G a0 a1 a2 a3 t2 t_length t_whole t_begins t_ends)) X E hI 1 rfl e2 rfl dX7_add_20 (fun H locs hI => ?_)
    refine lv_aload_n (pc := 21) hx hb dX7_add_21 rfl (lv_at hl 0 rfl) ?_
    refine lv_dup (pc := 22) hx hb dX7_add_22 rfl ?_
    refine x_get (pc := 23) X E hI inX7 0 rfl rfl 1 (by decide) tw_1_169 rfl dX7_add_23 ?_
    refine lv_iconst (pc := 26) (v := 1) hx hb dX7_add_26 (by decide) ?_
    refine lv_iadd (pc := 27) hx hb dX7_add_27 ?_
    refine x_put (pc := 28) (w' := (txw G a0 a1 a2 a3 t2 (t_length + 1) t_whole t_begins t_ends)) X E hI inX7 tyX7 tyX7_ok nmX7 0 rfl rfl 1 (by decide) tw_1_169 rfl rfl rfl (Nat.le_of_ble_eq_true rfl) rfl dX7_add_28 (fun H locs hI => ?_)
    refine lv_iconst (pc := 31) (v := 1) hx hb dX7_add_31 (by decide) ?_
    obtain rfl := Option.some.inj hf
    exact x_zret X hI (Or.inr rfl) dX7_add_32
  · have hf := q_in c1 hf
    refine lv_iconst (pc := 9) (v := 0) hx hb dX7_add_9 (by decide) ?_
    obtain rfl := Option.some.inj hf
    exact x_zret X hI (Or.inl rfl) dX7_add_10

abbrev rm_X7_signAt : Room := { frames := 0, cells := 0, slots := 0, locals := 0 }
set_option maxHeartbeats 4000000 in
set_option maxRecDepth 100000 in
theorem c_X7_signAt (l : Launch) (G : GX) (a0 : Nat) (a1 : Nat) (a2 : Nat) (a3 : Nat) {l1 : Int32} {t_signs : Nat → Int32} {t_length : Int32} {t_whole : Int32} {t_begins : Nat → Int32} {t_ends : Nat → Int32} {res : Int32} (hf : f_X7_signAt l1 t_signs t_length = some res) : MX l yX7_signAt cX7_signAt 2 (some .int) rm_X7_signAt G (txw G a0 a1 a2 a3 t_signs t_length t_whole t_begins t_ends) [.ref (a0), .int l1] (txw G a0 a1 a2 a3 t_signs t_length t_whole t_begins t_ends) (some (.int res)) 0 0 := by
  refine MX.of (plainFor_of_name (by decide)) (Nat.le_of_ble_eq_true rfl) ?_
  intro p e s m below meth c A X E hI ls hl
  obtain ⟨hx, hb, hml, hown, hts, hr, hlk⟩ := id X
  have hl : lv_has ls 2 [(0, .ref a0), (1, .int l1)] := hl
  unfold f_X7_signAt at hf
  refine lv_iload_n (pc := 0) hx hb dX7_signAt_0 rfl (lv_at hl 1 rfl) ?_
  refine lv_if_lt (pc := 1) (tgt := 21) hx hb dX7_signAt_1 (by decide) (fun c1 => ?_) (fun c1 => ?_)
  · have hf := q_ip c1 hf
    refine lv_iconst (pc := 21) (v := (-1)) hx hb dX7_signAt_21 (by decide) ?_
    obtain rfl := Option.some.inj hf
    exact x_iret X hI dX7_signAt_22
  · have hf := q_in c1 hf
    refine lv_iload_n (pc := 4) hx hb dX7_signAt_4 rfl (lv_at hl 1 rfl) ?_
    refine lv_aload_n (pc := 5) hx hb dX7_signAt_5 rfl (lv_at hl 0 rfl) ?_
    refine x_get (pc := 6) X E hI inX7 0 rfl rfl 1 (by decide) tw_1_169 rfl dX7_signAt_6 ?_
    refine lv_icmp_ge (pc := 9) (tgt := 21) hx hb dX7_signAt_9 (by decide) (fun c2 => ?_) (fun c2 => ?_)
    · have hf := q_ip c2 hf
      refine lv_iconst (pc := 21) (v := (-1)) hx hb dX7_signAt_21 (by decide) ?_
      obtain rfl := Option.some.inj hf
      exact x_iret X hI dX7_signAt_22
    · have hf := q_in c2 hf
      refine lv_aload_n (pc := 12) hx hb dX7_signAt_12 rfl (lv_at hl 0 rfl) ?_
      refine x_get (pc := 13) X E hI inX7 0 rfl rfl 0 (by decide) tw_1_168 rfl dX7_signAt_13 ?_
      refine lv_iload_n (pc := 16) hx hb dX7_signAt_16 rfl (lv_at hl 1 rfl) ?_
      obtain ⟨t3, e3, hf⟩ := q_ob hf
      refine x_iald (pc := 17) X E hI 1 rfl e3 dX7_signAt_17 ?_
      refine lv_goto (pc := 18) (tgt := 22) hx hb dX7_signAt_18 (by decide) ?_
      obtain rfl := Option.some.inj hf
      exact x_iret X hI dX7_signAt_22

abbrev rm_X7_isDigitAt : Room := { frames := 1, cells := 0, slots := 0, locals := 21 }
set_option maxHeartbeats 4000000 in
set_option maxRecDepth 100000 in
theorem c_X7_isDigitAt (l : Launch) (G : GX) (a0 : Nat) (a1 : Nat) (a2 : Nat) (a3 : Nat) {l1 : Int32} {t_signs : Nat → Int32} {t_length : Int32} {t_whole : Int32} {t_begins : Nat → Int32} {t_ends : Nat → Int32} {res : Int32} (hf : f_X7_isDigitAt l1 t_signs t_length = some res) : MX l yX7_isDigitAt cX7_isDigitAt 3 (some .boolean) rm_X7_isDigitAt G (txw G a0 a1 a2 a3 t_signs t_length t_whole t_begins t_ends) [.ref (a0), .int l1] (txw G a0 a1 a2 a3 t_signs t_length t_whole t_begins t_ends) (some (.int res)) 0 0 := by
  refine MX.of (plainFor_of_name (by decide)) (Nat.le_of_ble_eq_true rfl) ?_
  intro p e s m below meth c A X E hI ls hl
  obtain ⟨hx, hb, hml, hown, hts, hr, hlk⟩ := id X
  have hl : lv_has ls 3 [(0, .ref a0), (1, .int l1)] := hl
  unfold f_X7_isDigitAt at hf
  refine lv_aload_n (pc := 0) hx hb dX7_isDigitAt_0 rfl (lv_at hl 0 rfl) ?_
  refine lv_iload_n (pc := 1) hx hb dX7_isDigitAt_1 rfl (lv_at hl 1 rfl) ?_
  obtain ⟨t1, e1, hf⟩ := q_ob hf
  refine x_cVs (pc := 2) (st1 := [.int t1]) (w1 := (txw G a0 a1 a2 a3 t_signs t_length t_whole t_begins t_ends)) X E hI (c_X7_signAt l G a0 a1 a2 a3 e1) kv_X7_25 hd_X7_signAt ⟨rfl, rfl⟩ (by decide) 0 rfl rfl rfl rfl hl.1 rfl (Nat.le_of_ble_eq_true rfl) dX7_isDigitAt_2 ⟨Nat.le_of_ble_eq_true rfl, Nat.le_of_ble_eq_true rfl⟩ rfl (fun H locs hI => ?_)
  refine lv_istore_n (pc := 5) (lv' := [(2, .int t1), (0, .ref a0), (1, .int l1)]) hx hb dX7_isDigitAt_5 rfl hl (by decide) rfl (fun ls hl => ?_)
  refine lv_iload_n (pc := 6) hx hb dX7_isDigitAt_6 rfl (lv_at hl 0 rfl) ?_
  refine lv_bipush (pc := 7) (v := 48) hx hb dX7_isDigitAt_7 (by decide) ?_
  refine lv_icmp_lt (pc := 9) (tgt := 22) hx hb dX7_isDigitAt_9 (by decide) (fun c2 => ?_) (fun c2 => ?_)
  · have hf := q_ip c2 hf
    refine lv_iconst (pc := 22) (v := 0) hx hb dX7_isDigitAt_22 (by decide) ?_
    obtain rfl := Option.some.inj hf
    exact x_zret X hI (Or.inl rfl) dX7_isDigitAt_23
  · have hf := q_in c2 hf
    refine lv_iload_n (pc := 12) hx hb dX7_isDigitAt_12 rfl (lv_at hl 0 rfl) ?_
    refine lv_bipush (pc := 13) (v := 57) hx hb dX7_isDigitAt_13 (by decide) ?_
    refine lv_icmp_gt (pc := 15) (tgt := 22) hx hb dX7_isDigitAt_15 (by decide) (fun c3 => ?_) (fun c3 => ?_)
    · have hf := q_ip c3 hf
      refine lv_iconst (pc := 22) (v := 0) hx hb dX7_isDigitAt_22 (by decide) ?_
      obtain rfl := Option.some.inj hf
      exact x_zret X hI (Or.inl rfl) dX7_isDigitAt_23
    · have hf := q_in c3 hf
      refine lv_iconst (pc := 18) (v := 1) hx hb dX7_isDigitAt_18 (by decide) ?_
      refine lv_goto (pc := 19) (tgt := 23) hx hb dX7_isDigitAt_19 (by decide) ?_
      obtain rfl := Option.some.inj hf
      exact x_zret X hI (Or.inr rfl) dX7_isDigitAt_23

abbrev rm_X7_afterDigits : Room := { frames := 2, cells := 0, slots := 0, locals := 43 }
set_option maxHeartbeats 4000000 in
set_option maxRecDepth 100000 in
theorem k_X7_afterDigits_L17 {p : Program} {l : Launch} {e : Env} {s : State} {m : MethodId} {args : Array Value} {below : List Frame} {meth : Method} {c : Code} {A : Nat → Prop} {G : GX} {a0 : Nat} {a1 : Nat} {a2 : Nat} {a3 : Nat} {l1 : Int32} {l2 : Int32} {t_signs : Nat → Int32} {t_length : Int32} {t_whole : Int32} {t_begins : Nat → Int32} {t_ends : Nat → Int32} {K : Int32 → Option (Int32)} {res : Int32} (X : CX RX7 cX7_afterDigits 4 (some .int) p s m args meth c) (E : EX G A s)
    (hK : ∀ (l3 : Int32) (H : Heap) (locs : List Loc) (ls : Array Slot), IN A G (txw G a0 a1 a2 a3 t_signs t_length t_whole t_begins t_ends) s H locs → lv_has ls 4 [(0, .ref a0), (1, .int l1), (2, .int l2), (3, .int l3)] → K l3 = some res → W p l e rm_X7_afterDigits s m args below meth c H locs 0 0 (MQ below (QX G A (txw G a0 a1 a2 a3 t_signs t_length t_whole t_begins t_ends) (some (.int res))) args s 0 0 A) (F0 m 40 ls [])) :
    ∀ {k : Nat} {l3 : Int32} {H : Heap} {locs : List Loc} {ls : Array Slot}, IN A G (txw G a0 a1 a2 a3 t_signs t_length t_whole t_begins t_ends) s H locs → lv_has ls 4 [(0, .ref a0), (1, .int l1), (2, .int l2), (3, .int l3)] → f_X7_afterDigits_L17 l1 l2 t_signs t_length K k l3 = some res → W p l e rm_X7_afterDigits s m args below meth c H locs 0 0 (MQ below (QX G A (txw G a0 a1 a2 a3 t_signs t_length t_whole t_begins t_ends) (some (.int res))) args s 0 0 A) (F0 m 17 ls []) := by
  obtain ⟨hx, hb, hml, hown, hts, hr, hlk⟩ := id X
  intro k
  induction k with
  | zero => intro l3 H locs ls hI hl hf; exact nomatch (show none = some res from hf)
  | succ k ih =>
    intro l3 H locs ls hI hl hf
    rw [f_X7_afterDigits_L17] at hf
    refine lv_iload_n (pc := 17) hx hb dX7_afterDigits_17 rfl (lv_at hl 3 rfl) ?_
    refine lv_iload_n (pc := 18) hx hb dX7_afterDigits_18 rfl (lv_at hl 2 rfl) ?_
    refine lv_icmp_ge (pc := 19) (tgt := 40) hx hb dX7_afterDigits_19 (by decide) (fun c1 => ?_) (fun c1 => ?_)
    · have hf := q_ip c1 hf
      exact hK _ _ _ _ hI (lv_sub hl [0, 1, 2, 3] rfl) hf
    · have hf := q_in c1 hf
      refine lv_aload_n (pc := 22) hx hb dX7_afterDigits_22 rfl (lv_at hl 0 rfl) ?_
      refine lv_iload_n (pc := 23) hx hb dX7_afterDigits_23 rfl (lv_at hl 1 rfl) ?_
      refine lv_iconst (pc := 24) (v := 1) hx hb dX7_afterDigits_24 (by decide) ?_
      refine lv_iadd (pc := 25) hx hb dX7_afterDigits_25 ?_
      refine lv_iload_n (pc := 26) hx hb dX7_afterDigits_26 rfl (lv_at hl 3 rfl) ?_
      refine lv_iadd (pc := 27) hx hb dX7_afterDigits_27 ?_
      obtain ⟨t2, e2, hf⟩ := q_ob hf
      refine x_cVs (pc := 28) (st1 := [.int t2]) (w1 := (txw G a0 a1 a2 a3 t_signs t_length t_whole t_begins t_ends)) X E hI (c_X7_isDigitAt l G a0 a1 a2 a3 e2) kv_X7_41 hd_X7_isDigitAt ⟨rfl, rfl⟩ (by decide) 0 rfl rfl rfl rfl hl.1 rfl (Nat.le_of_ble_eq_true rfl) dX7_afterDigits_28 ⟨Nat.le_of_ble_eq_true rfl, Nat.le_of_ble_eq_true rfl⟩ rfl (fun H locs hI => ?_)
      refine lv_if_eq (pc := 31) (tgt := 40) hx hb dX7_afterDigits_31 (by decide) (fun c3 => ?_) (fun c3 => ?_)
      · have hf := q_ip c3 hf
        exact hK _ _ _ _ hI (lv_sub hl [0, 1, 2, 3] rfl) hf
      · have hf := q_in c3 hf
        refine lv_iinc (pc := 34) (v := l3 + 1) (lv' := [(3, .int (l3 + 1)), (0, .ref a0), (1, .int l1), (2, .int l2)]) hx hb dX7_afterDigits_34 hl (k := 3) rfl rfl (by decide) rfl (fun ls hl => ?_)
        refine lv_goto (pc := 37) (tgt := 17) hx hb dX7_afterDigits_37 (by decide) ?_
        exact ih hI (lv_sub hl [1, 2, 3, 0] rfl) hf

set_option maxHeartbeats 4000000 in
set_option maxRecDepth 100000 in
theorem c_X7_afterDigits (l : Launch) (G : GX) (a0 : Nat) (a1 : Nat) (a2 : Nat) (a3 : Nat) {l1 : Int32} {t_signs : Nat → Int32} {t_length : Int32} {t_whole : Int32} {t_begins : Nat → Int32} {t_ends : Nat → Int32} {res : Int32} (hf : f_X7_afterDigits l1 t_signs t_length = some res) : MX l yX7_afterDigits cX7_afterDigits 4 (some .int) rm_X7_afterDigits G (txw G a0 a1 a2 a3 t_signs t_length t_whole t_begins t_ends) [.ref (a0), .int l1] (txw G a0 a1 a2 a3 t_signs t_length t_whole t_begins t_ends) (some (.int res)) 0 0 := by
  refine MX.of (plainFor_of_name (by decide)) (Nat.le_of_ble_eq_true rfl) ?_
  intro p e s m below meth c A X E hI ls hl
  obtain ⟨hx, hb, hml, hown, hts, hr, hlk⟩ := id X
  have hl : lv_has ls 4 [(0, .ref a0), (1, .int l1)] := hl
  unfold f_X7_afterDigits at hf
  refine lv_aload_n (pc := 0) hx hb dX7_afterDigits_0 rfl (lv_at hl 0 rfl) ?_
  refine lv_iload_n (pc := 1) hx hb dX7_afterDigits_1 rfl (lv_at hl 1 rfl) ?_
  obtain ⟨t1, e1, hf⟩ := q_ob hf
  refine x_cVs (pc := 2) (st1 := [.int t1]) (w1 := (txw G a0 a1 a2 a3 t_signs t_length t_whole t_begins t_ends)) X E hI (c_X7_signAt l G a0 a1 a2 a3 e1) kv_X7_25 hd_X7_signAt ⟨rfl, rfl⟩ (by decide) 0 rfl rfl rfl rfl hl.1 rfl (Nat.le_of_ble_eq_true rfl) dX7_afterDigits_2 ⟨Nat.le_of_ble_eq_true rfl, Nat.le_of_ble_eq_true rfl⟩ rfl (fun H locs hI => ?_)
  obtain ⟨t2, e2, hf⟩ := q_ob hf
  refine x_cSn (pc := 5) (st1 := [.int t2]) X E hI (c_X7_mostDigits l G e2) ks_X7_38 hd_X7_mostDigits ⟨rfl, rfl⟩ (by decide) rfl hl.1 rfl (Nat.le_of_ble_eq_true rfl) dX7_afterDigits_5 ⟨Nat.le_of_ble_eq_true rfl, Nat.le_of_ble_eq_true rfl⟩ rfl (fun H locs hI => ?_)
  refine lv_istore_n (pc := 8) (lv' := [(2, .int t2), (0, .ref a0), (1, .int l1)]) hx hb dX7_afterDigits_8 rfl hl (by decide) rfl (fun ls hl => ?_)
  refine lv_iload_n (pc := 9) hx hb dX7_afterDigits_9 rfl (lv_at hl 0 rfl) ?_
  refine lv_if_ne (pc := 10) (tgt := 15) hx hb dX7_afterDigits_10 (by decide) (fun c3 => ?_) (fun c3 => ?_)
  · have hf := q_in c3 hf
    refine lv_iconst (pc := 15) (v := 0) hx hb dX7_afterDigits_15 (by decide) ?_
    refine lv_istore_n (pc := 16) (lv' := [(3, .int 0), (2, .int t2), (0, .ref a0), (1, .int l1)]) hx hb dX7_afterDigits_16 rfl hl (by decide) rfl (fun ls hl => ?_)
    refine k_X7_afterDigits_L17 X E (fun l3_4 H locs ls hI hl hf => ?_) hI (lv_sub hl [2, 3, 1, 0] rfl) hf
    refine lv_iload_n (pc := 40) hx hb dX7_afterDigits_40 rfl (lv_at hl 1 rfl) ?_
    refine lv_iconst (pc := 41) (v := 1) hx hb dX7_afterDigits_41 (by decide) ?_
    refine lv_iadd (pc := 42) hx hb dX7_afterDigits_42 ?_
    refine lv_iload_n (pc := 43) hx hb dX7_afterDigits_43 rfl (lv_at hl 3 rfl) ?_
    refine lv_iadd (pc := 44) hx hb dX7_afterDigits_44 ?_
    obtain rfl := Option.some.inj hf
    exact x_iret X hI dX7_afterDigits_45
  · have hf := q_ip c3 hf
    refine lv_iload_n (pc := 13) hx hb dX7_afterDigits_13 rfl (lv_at hl 2 rfl) ?_
    obtain rfl := Option.some.inj hf
    exact x_iret X hI dX7_afterDigits_14

abbrev rm_X7_findFault : Room := { frames := 3, cells := 0, slots := 0, locals := 66 }
set_option maxHeartbeats 4000000 in
set_option maxRecDepth 100000 in
theorem k_X7_findFault_L9 {p : Program} {l : Launch} {e : Env} {s : State} {m : MethodId} {args : Array Value} {below : List Frame} {meth : Method} {c : Code} {A : Nat → Prop} {G : GX} {a0 : Nat} {a1 : Nat} {a2 : Nat} {a3 : Nat} {t_signs : Nat → Int32} {t_length : Int32} {K : Int32 → Int32 → Int32 → (Nat → Int32) → (Nat → Int32) → Option (Int32 × Int32 × (Nat → Int32) × (Nat → Int32))} {res : Int32 × Int32 × (Nat → Int32) × (Nat → Int32)} (X : CX RX7 cX7_findFault 4 (some .int) p s m args meth c) (E : EX G A s)
    (hK : ∀ (l1 : Int32) (l2 : Int32) (t_whole : Int32) (t_begins : (Nat → Int32)) (t_ends : (Nat → Int32)) (H : Heap) (locs : List Loc) (ls : Array Slot), IN A G (txw G a0 a1 a2 a3 t_signs t_length t_whole t_begins t_ends) s H locs → lv_has ls 4 [(0, .ref a0), (1, .int l1), (2, .int l2)] → K l1 l2 t_whole t_begins t_ends = some res → W p l e rm_X7_findFault s m args below meth c H locs 0 0 (MQ below (QX G A (txw G a0 a1 a2 a3 t_signs t_length res.2.1 res.2.2.1 res.2.2.2) (some (.int res.1))) args s 0 0 A) (F0 m 101 ls [])) :
    ∀ {k : Nat} {l1 : Int32} {l2 : Int32} {t_whole : Int32} {t_begins : (Nat → Int32)} {t_ends : (Nat → Int32)} {H : Heap} {locs : List Loc} {ls : Array Slot}, IN A G (txw G a0 a1 a2 a3 t_signs t_length t_whole t_begins t_ends) s H locs → lv_has ls 4 [(0, .ref a0), (1, .int l1), (2, .int l2)] → f_X7_findFault_L9 t_signs t_length K k l1 l2 t_whole t_begins t_ends = some res → W p l e rm_X7_findFault s m args below meth c H locs 0 0 (MQ below (QX G A (txw G a0 a1 a2 a3 t_signs t_length res.2.1 res.2.2.1 res.2.2.2) (some (.int res.1))) args s 0 0 A) (F0 m 9 ls []) := by
  obtain ⟨hx, hb, hml, hown, hts, hr, hlk⟩ := id X
  intro k
  induction k with
  | zero => intro l1 l2 t_whole t_begins t_ends H locs ls hI hl hf; exact nomatch (show none = some res from hf)
  | succ k ih =>
    intro l1 l2 t_whole t_begins t_ends H locs ls hI hl hf
    rw [f_X7_findFault_L9] at hf
    refine lv_iload_n (pc := 9) hx hb dX7_findFault_9 rfl (lv_at hl 2 rfl) ?_
    refine lv_bipush (pc := 10) (v := 12) hx hb dX7_findFault_10 (by decide) ?_
    refine lv_icmp_ge (pc := 12) (tgt := 101) hx hb dX7_findFault_12 (by decide) (fun c1 => ?_) (fun c1 => ?_)
    · have hf := q_ip c1 hf
      exact hK _ _ _ _ _ _ _ _ hI (lv_sub hl [0, 1, 2] rfl) hf
    · have hf := q_in c1 hf
      refine lv_aload_n (pc := 15) hx hb dX7_findFault_15 rfl (lv_at hl 0 rfl) ?_
      refine x_get (pc := 16) X E hI inX7 0 rfl rfl 3 (by decide) tw_1_173 rfl dX7_findFault_16 ?_
      refine lv_iload_n (pc := 19) hx hb dX7_findFault_19 rfl (lv_at hl 2 rfl) ?_
      refine lv_iload_n (pc := 20) hx hb dX7_findFault_20 rfl (lv_at hl 1 rfl) ?_
      obtain ⟨t2, e2, hf⟩ := q_ob hf
      refine x_iast (pc := 21) (w' := (txw G a0 a1 a2 a3 t_signs t_length t_whole t2 t_ends)) X E hI 2 rfl e2 rfl dX7_findFault_21 (fun H locs hI => ?_)
      refine lv_aload_n (pc := 22) hx hb dX7_findFault_22 rfl (lv_at hl 0 rfl) ?_
      refine lv_iload_n (pc := 23) hx hb dX7_findFault_23 rfl (lv_at hl 1 rfl) ?_
      obtain ⟨t3, e3, hf⟩ := q_ob hf
      refine x_cVs (pc := 24) (st1 := [.int t3]) (w1 := (txw G a0 a1 a2 a3 t_signs t_length t_whole t2 t_ends)) X E hI (c_X7_afterDigits l G a0 a1 a2 a3 e3) kv_X7_32 hd_X7_afterDigits ⟨rfl, rfl⟩ (by decide) 0 rfl rfl rfl rfl hl.1 rfl (Nat.le_of_ble_eq_true rfl) dX7_findFault_24 ⟨Nat.le_of_ble_eq_true rfl, Nat.le_of_ble_eq_true rfl⟩ rfl (fun H locs hI => ?_)
      refine lv_istore_n (pc := 27) (lv' := [(3, .int t3), (0, .ref a0), (1, .int l1), (2, .int l2)]) hx hb dX7_findFault_27 rfl hl (by decide) rfl (fun ls hl => ?_)
      refine lv_iload_n (pc := 28) hx hb dX7_findFault_28 rfl (lv_at hl 0 rfl) ?_
      refine lv_iload_n (pc := 29) hx hb dX7_findFault_29 rfl (lv_at hl 2 rfl) ?_
      refine lv_isub (pc := 30) hx hb dX7_findFault_30 ?_
      refine lv_iconst (pc := 31) (v := 1) hx hb dX7_findFault_31 (by decide) ?_
      refine lv_isub (pc := 32) hx hb dX7_findFault_32 ?_
      refine lv_aload_n (pc := 33) hx hb dX7_findFault_33 rfl (lv_at hl 1 rfl) ?_
      refine lv_iload_n (pc := 34) hx hb dX7_findFault_34 rfl (lv_at hl 2 rfl) ?_
      obtain ⟨t4, e4, hf⟩ := q_ob hf
      refine x_cVs (pc := 35) (st1 := [.int t4, .int ((t3 - l1) - 1)]) (w1 := (txw G a0 a1 a2 a3 t_signs t_length t_whole t2 t_ends)) X E hI (c_X7_signAt l G a0 a1 a2 a3 e4) kv_X7_25 hd_X7_signAt ⟨rfl, rfl⟩ (by decide) 0 rfl rfl rfl rfl hl.1 rfl (Nat.le_of_ble_eq_true rfl) dX7_findFault_35 ⟨Nat.le_of_ble_eq_true rfl, Nat.le_of_ble_eq_true rfl⟩ rfl (fun H locs hI => ?_)
      obtain ⟨t5, e5, hf⟩ := q_ob hf
      refine x_cSn (pc := 38) (st1 := [.int t5, .int ((t3 - l1) - 1)]) X E hI (c_X7_fewestDigits l G e5) ks_X7_35 hd_X7_fewestDigits ⟨rfl, rfl⟩ (by decide) rfl hl.1 rfl (Nat.le_of_ble_eq_true rfl) dX7_findFault_38 ⟨Nat.le_of_ble_eq_true rfl, Nat.le_of_ble_eq_true rfl⟩ rfl (fun H locs hI => ?_)
      refine lv_icmp_ge (pc := 41) (tgt := 46) hx hb dX7_findFault_41 (by decide) (fun c6 => ?_) (fun c6 => ?_)
      · have hf := q_ip c6 hf
        refine lv_aload_n (pc := 46) hx hb dX7_findFault_46 rfl (lv_at hl 1 rfl) ?_
        refine x_get (pc := 47) X E hI inX7 0 rfl rfl 4 (by decide) tw_1_174 rfl dX7_findFault_47 ?_
        refine lv_iload_n (pc := 50) hx hb dX7_findFault_50 rfl (lv_at hl 3 rfl) ?_
        refine lv_iload_n (pc := 51) hx hb dX7_findFault_51 rfl (lv_at hl 0 rfl) ?_
        obtain ⟨t7, e7, hf⟩ := q_ob hf
        refine x_iast (pc := 52) (w' := (txw G a0 a1 a2 a3 t_signs t_length t_whole t2 t7)) X E hI 3 rfl e7 rfl dX7_findFault_52 (fun H locs hI => ?_)
        refine lv_aload_n (pc := 53) hx hb dX7_findFault_53 rfl (lv_at hl 1 rfl) ?_
        refine lv_iload_n (pc := 54) hx hb dX7_findFault_54 rfl (lv_at hl 3 rfl) ?_
        refine lv_iconst (pc := 55) (v := 1) hx hb dX7_findFault_55 (by decide) ?_
        refine lv_iadd (pc := 56) hx hb dX7_findFault_56 ?_
        refine x_put (pc := 57) (w' := (txw G a0 a1 a2 a3 t_signs t_length (l2 + 1) t2 t7)) X E hI inX7 tyX7 tyX7_ok nmX7 0 rfl rfl 2 (by decide) tw_1_171 rfl rfl rfl (Nat.le_of_ble_eq_true rfl) rfl dX7_findFault_57 (fun H locs hI => ?_)
        refine lv_iload_n (pc := 60) hx hb dX7_findFault_60 rfl (lv_at hl 0 rfl) ?_
        refine lv_aload_n (pc := 61) hx hb dX7_findFault_61 rfl (lv_at hl 1 rfl) ?_
        refine x_get (pc := 62) X E hI inX7 0 rfl rfl 1 (by decide) tw_1_169 rfl dX7_findFault_62 ?_
        refine lv_icmp_lt (pc := 65) (tgt := 70) hx hb dX7_findFault_65 (by decide) (fun c8 => ?_) (fun c8 => ?_)
        · have hf := q_ip c8 hf
          refine lv_aload_n (pc := 70) hx hb dX7_findFault_70 rfl (lv_at hl 1 rfl) ?_
          refine lv_iload_n (pc := 71) hx hb dX7_findFault_71 rfl (lv_at hl 0 rfl) ?_
          obtain ⟨t9, e9, hf⟩ := q_ob hf
          refine x_cVs (pc := 72) (st1 := [.int t9]) (w1 := (txw G a0 a1 a2 a3 t_signs t_length (l2 + 1) t2 t7)) X E hI (c_X7_signAt l G a0 a1 a2 a3 e9) kv_X7_25 hd_X7_signAt ⟨rfl, rfl⟩ (by decide) 0 rfl rfl rfl rfl hl.1 rfl (Nat.le_of_ble_eq_true rfl) dX7_findFault_72 ⟨Nat.le_of_ble_eq_true rfl, Nat.le_of_ble_eq_true rfl⟩ rfl (fun H locs hI => ?_)
          refine lv_bipush (pc := 75) (v := 59) hx hb dX7_findFault_75 (by decide) ?_
          refine lv_icmp_ne (pc := 77) (tgt := 89) hx hb dX7_findFault_77 (by decide) (fun c10 => ?_) (fun c10 => ?_)
          · have hf := q_in c10 hf
            refine lv_iload_n (pc := 89) hx hb dX7_findFault_89 rfl (lv_at hl 0 rfl) ?_
            obtain rfl := Option.some.inj hf
            exact x_iret X hI dX7_findFault_90
          · have hf := q_ip c10 hf
            refine lv_aload_n (pc := 80) hx hb dX7_findFault_80 rfl (lv_at hl 1 rfl) ?_
            refine x_get (pc := 81) X E hI inX7 0 rfl rfl 2 (by decide) tw_1_171 rfl dX7_findFault_81 ?_
            refine lv_bipush (pc := 84) (v := 12) hx hb dX7_findFault_84 (by decide) ?_
            refine lv_icmp_ne (pc := 86) (tgt := 91) hx hb dX7_findFault_86 (by decide) (fun c11 => ?_) (fun c11 => ?_)
            · have hf := q_in c11 hf
              refine lv_iload_n (pc := 91) hx hb dX7_findFault_91 rfl (lv_at hl 0 rfl) ?_
              refine lv_iconst (pc := 92) (v := 1) hx hb dX7_findFault_92 (by decide) ?_
              refine lv_iadd (pc := 93) hx hb dX7_findFault_93 ?_
              refine lv_istore_n (pc := 94) (lv' := [(1, .int (t3 + 1)), (3, .int t3), (0, .ref a0), (2, .int l2)]) hx hb dX7_findFault_94 rfl hl (by decide) rfl (fun ls hl => ?_)
              refine lv_iinc (pc := 95) (v := l2 + 1) (lv' := [(2, .int (l2 + 1)), (1, .int (t3 + 1)), (3, .int t3), (0, .ref a0)]) hx hb dX7_findFault_95 hl (k := 3) rfl rfl (by decide) rfl (fun ls hl => ?_)
              refine lv_goto (pc := 98) (tgt := 9) hx hb dX7_findFault_98 (by decide) ?_
              exact ih hI (lv_sub hl [3, 1, 0] rfl) hf
            · have hf := q_ip c11 hf
              refine lv_iload_n (pc := 89) hx hb dX7_findFault_89 rfl (lv_at hl 0 rfl) ?_
              obtain rfl := Option.some.inj hf
              exact x_iret X hI dX7_findFault_90
        · have hf := q_in c8 hf
          refine lv_iconst (pc := 68) (v := (-1)) hx hb dX7_findFault_68 (by decide) ?_
          obtain rfl := Option.some.inj hf
          exact x_iret X hI dX7_findFault_69
      · have hf := q_in c6 hf
        refine lv_iload_n (pc := 44) hx hb dX7_findFault_44 rfl (lv_at hl 0 rfl) ?_
        obtain rfl := Option.some.inj hf
        exact x_iret X hI dX7_findFault_45

set_option maxHeartbeats 4000000 in
set_option maxRecDepth 100000 in
theorem c_X7_findFault (l : Launch) (G : GX) (a0 : Nat) (a1 : Nat) (a2 : Nat) (a3 : Nat) {t_signs : Nat → Int32} {t_length : Int32} {t_whole : Int32} {t_begins : Nat → Int32} {t_ends : Nat → Int32} {res : Int32 × Int32 × (Nat → Int32) × (Nat → Int32)} (hf : f_X7_findFault t_signs t_length t_whole t_begins t_ends = some res) : MX l yX7_findFault cX7_findFault 4 (some .int) rm_X7_findFault G (txw G a0 a1 a2 a3 t_signs t_length t_whole t_begins t_ends) [.ref (a0)] (txw G a0 a1 a2 a3 t_signs t_length res.2.1 res.2.2.1 res.2.2.2) (some (.int res.1)) 0 0 := by
  refine MX.of (plainFor_of_name (by decide)) (Nat.le_of_ble_eq_true rfl) ?_
  intro p e s m below meth c A X E hI ls hl
  obtain ⟨hx, hb, hml, hown, hts, hr, hlk⟩ := id X
  have hl : lv_has ls 4 [(0, .ref a0)] := hl
  unfold f_X7_findFault at hf
  refine lv_aload_n (pc := 0) hx hb dX7_findFault_0 rfl (lv_at hl 0 rfl) ?_
  refine lv_iconst (pc := 1) (v := 0) hx hb dX7_findFault_1 (by decide) ?_
  refine x_put (pc := 2) (w' := (txw G a0 a1 a2 a3 t_signs t_length 0 t_begins t_ends)) X E hI inX7 tyX7 tyX7_ok nmX7 0 rfl rfl 2 (by decide) tw_1_171 rfl rfl rfl (Nat.le_of_ble_eq_true rfl) rfl dX7_findFault_2 (fun H locs hI => ?_)
  refine lv_iconst (pc := 5) (v := 0) hx hb dX7_findFault_5 (by decide) ?_
  refine lv_istore_n (pc := 6) (lv' := [(1, .int 0), (0, .ref a0)]) hx hb dX7_findFault_6 rfl hl (by decide) rfl (fun ls hl => ?_)
  refine lv_iconst (pc := 7) (v := 0) hx hb dX7_findFault_7 (by decide) ?_
  refine lv_istore_n (pc := 8) (lv' := [(2, .int 0), (1, .int 0), (0, .ref a0)]) hx hb dX7_findFault_8 rfl hl (by decide) rfl (fun ls hl => ?_)
  refine k_X7_findFault_L9 X E (fun l1_1 l2_1 t_whole_1 t_begins_1 t_ends_1 H locs ls hI hl hf => ?_) hI (lv_sub hl [2, 1, 0] rfl) hf
  refine lv_iconst (pc := 101) (v := (-1)) hx hb dX7_findFault_101 (by decide) ?_
  obtain rfl := Option.some.inj hf
  exact x_iret X hI dX7_findFault_102

abbrev rm_X7_letterOf : Room := { frames := 1, cells := 0, slots := 0, locals := 21 }
set_option maxHeartbeats 4000000 in
set_option maxRecDepth 100000 in
theorem c_X7_letterOf (l : Launch) (G : GX) (a0 : Nat) (a1 : Nat) (a2 : Nat) (a3 : Nat) {l1 : Int32} {t_signs : Nat → Int32} {t_length : Int32} {t_whole : Int32} {t_begins : Nat → Int32} {t_ends : Nat → Int32} {res : Int32} (hf : f_X7_letterOf l1 t_signs t_length t_whole t_begins = some res) : MX l yX7_letterOf cX7_letterOf 2 (some .int) rm_X7_letterOf G (txw G a0 a1 a2 a3 t_signs t_length t_whole t_begins t_ends) [.ref (a0), .int l1] (txw G a0 a1 a2 a3 t_signs t_length t_whole t_begins t_ends) (some (.int res)) 0 0 := by
  refine MX.of (plainFor_of_name (by decide)) (Nat.le_of_ble_eq_true rfl) ?_
  intro p e s m below meth c A X E hI ls hl
  obtain ⟨hx, hb, hml, hown, hts, hr, hlk⟩ := id X
  have hl : lv_has ls 2 [(0, .ref a0), (1, .int l1)] := hl
  unfold f_X7_letterOf at hf
  refine lv_iload_n (pc := 0) hx hb dX7_letterOf_0 rfl (lv_at hl 1 rfl) ?_
  refine lv_if_lt (pc := 1) (tgt := 25) hx hb dX7_letterOf_1 (by decide) (fun c1 => ?_) (fun c1 => ?_)
  · have hf := q_ip c1 hf
    refine lv_iconst (pc := 25) (v := (-1)) hx hb dX7_letterOf_25 (by decide) ?_
    obtain rfl := Option.some.inj hf
    exact x_iret X hI dX7_letterOf_26
  · have hf := q_in c1 hf
    refine lv_iload_n (pc := 4) hx hb dX7_letterOf_4 rfl (lv_at hl 1 rfl) ?_
    refine lv_aload_n (pc := 5) hx hb dX7_letterOf_5 rfl (lv_at hl 0 rfl) ?_
    refine x_get (pc := 6) X E hI inX7 0 rfl rfl 2 (by decide) tw_1_171 rfl dX7_letterOf_6 ?_
    refine lv_icmp_ge (pc := 9) (tgt := 25) hx hb dX7_letterOf_9 (by decide) (fun c2 => ?_) (fun c2 => ?_)
    · have hf := q_ip c2 hf
      refine lv_iconst (pc := 25) (v := (-1)) hx hb dX7_letterOf_25 (by decide) ?_
      obtain rfl := Option.some.inj hf
      exact x_iret X hI dX7_letterOf_26
    · have hf := q_in c2 hf
      refine lv_aload_n (pc := 12) hx hb dX7_letterOf_12 rfl (lv_at hl 0 rfl) ?_
      refine lv_aload_n (pc := 13) hx hb dX7_letterOf_13 rfl (lv_at hl 0 rfl) ?_
      refine x_get (pc := 14) X E hI inX7 0 rfl rfl 3 (by decide) tw_1_173 rfl dX7_letterOf_14 ?_
      refine lv_iload_n (pc := 17) hx hb dX7_letterOf_17 rfl (lv_at hl 1 rfl) ?_
      obtain ⟨t3, e3, hf⟩ := q_ob hf
      refine x_iald (pc := 18) X E hI 2 rfl e3 dX7_letterOf_18 ?_
      obtain ⟨t4, e4, hf⟩ := q_ob hf
      refine x_cVs (pc := 19) (st1 := [.int t4]) (w1 := (txw G a0 a1 a2 a3 t_signs t_length t_whole t_begins t_ends)) X E hI (c_X7_signAt l G a0 a1 a2 a3 e4) kv_X7_25 hd_X7_signAt ⟨rfl, rfl⟩ (by decide) 0 rfl rfl rfl rfl hl.1 rfl (Nat.le_of_ble_eq_true rfl) dX7_letterOf_19 ⟨Nat.le_of_ble_eq_true rfl, Nat.le_of_ble_eq_true rfl⟩ rfl (fun H locs hI => ?_)
      refine lv_goto (pc := 22) (tgt := 26) hx hb dX7_letterOf_22 (by decide) ?_
      obtain rfl := Option.some.inj hf
      exact x_iret X hI dX7_letterOf_26

abbrev rm_X7_numberOf : Room := { frames := 1, cells := 0, slots := 0, locals := 21 }
set_option maxHeartbeats 4000000 in
set_option maxRecDepth 100000 in
theorem k_X7_numberOf_L23 {p : Program} {l : Launch} {e : Env} {s : State} {m : MethodId} {args : Array Value} {below : List Frame} {meth : Method} {c : Code} {A : Nat → Prop} {G : GX} {a0 : Nat} {a1 : Nat} {a2 : Nat} {a3 : Nat} {l1 : Int32} {t_signs : Nat → Int32} {t_length : Int32} {t_whole : Int32} {t_begins : Nat → Int32} {t_ends : Nat → Int32} {K : Int32 → Int32 → Option (Int32)} {res : Int32} (X : CX RX7 cX7_numberOf 4 (some .int) p s m args meth c) (E : EX G A s)
    (hK : ∀ (l2 : Int32) (l3 : Int32) (H : Heap) (locs : List Loc) (ls : Array Slot), IN A G (txw G a0 a1 a2 a3 t_signs t_length t_whole t_begins t_ends) s H locs → lv_has ls 4 [(0, .ref a0), (1, .int l1), (2, .int l2), (3, .int l3)] → K l2 l3 = some res → W p l e rm_X7_numberOf s m args below meth c H locs 0 0 (MQ below (QX G A (txw G a0 a1 a2 a3 t_signs t_length t_whole t_begins t_ends) (some (.int res))) args s 0 0 A) (F0 m 53 ls [])) :
    ∀ {k : Nat} {l2 : Int32} {l3 : Int32} {H : Heap} {locs : List Loc} {ls : Array Slot}, IN A G (txw G a0 a1 a2 a3 t_signs t_length t_whole t_begins t_ends) s H locs → lv_has ls 4 [(0, .ref a0), (1, .int l1), (2, .int l2), (3, .int l3)] → f_X7_numberOf_L23 l1 t_signs t_length t_ends K k l2 l3 = some res → W p l e rm_X7_numberOf s m args below meth c H locs 0 0 (MQ below (QX G A (txw G a0 a1 a2 a3 t_signs t_length t_whole t_begins t_ends) (some (.int res))) args s 0 0 A) (F0 m 23 ls []) := by
  obtain ⟨hx, hb, hml, hown, hts, hr, hlk⟩ := id X
  intro k
  induction k with
  | zero => intro l2 l3 H locs ls hI hl hf; exact nomatch (show none = some res from hf)
  | succ k ih =>
    intro l2 l3 H locs ls hI hl hf
    rw [f_X7_numberOf_L23] at hf
    refine lv_iload_n (pc := 23) hx hb dX7_numberOf_23 rfl (lv_at hl 3 rfl) ?_
    refine lv_aload_n (pc := 24) hx hb dX7_numberOf_24 rfl (lv_at hl 0 rfl) ?_
    refine x_get (pc := 25) X E hI inX7 0 rfl rfl 4 (by decide) tw_1_174 rfl dX7_numberOf_25 ?_
    refine lv_iload_n (pc := 28) hx hb dX7_numberOf_28 rfl (lv_at hl 1 rfl) ?_
    obtain ⟨t1, e1, hf⟩ := q_ob hf
    refine x_iald (pc := 29) X E hI 3 rfl e1 dX7_numberOf_29 ?_
    refine lv_icmp_ge (pc := 30) (tgt := 53) hx hb dX7_numberOf_30 (by decide) (fun c2 => ?_) (fun c2 => ?_)
    · have hf := q_ip c2 hf
      exact hK _ _ _ _ _ hI (lv_sub hl [0, 1, 2, 3] rfl) hf
    · have hf := q_in c2 hf
      refine lv_iload_n (pc := 33) hx hb dX7_numberOf_33 rfl (lv_at hl 2 rfl) ?_
      refine lv_bipush (pc := 34) (v := 10) hx hb dX7_numberOf_34 (by decide) ?_
      refine lv_imul (pc := 36) hx hb dX7_numberOf_36 ?_
      refine lv_aload_n (pc := 37) hx hb dX7_numberOf_37 rfl (lv_at hl 0 rfl) ?_
      refine lv_iload_n (pc := 38) hx hb dX7_numberOf_38 rfl (lv_at hl 3 rfl) ?_
      obtain ⟨t3, e3, hf⟩ := q_ob hf
      refine x_cVs (pc := 39) (st1 := [.int t3, .int (l2 * 10)]) (w1 := (txw G a0 a1 a2 a3 t_signs t_length t_whole t_begins t_ends)) X E hI (c_X7_signAt l G a0 a1 a2 a3 e3) kv_X7_25 hd_X7_signAt ⟨rfl, rfl⟩ (by decide) 0 rfl rfl rfl rfl hl.1 rfl (Nat.le_of_ble_eq_true rfl) dX7_numberOf_39 ⟨Nat.le_of_ble_eq_true rfl, Nat.le_of_ble_eq_true rfl⟩ rfl (fun H locs hI => ?_)
      refine lv_iadd (pc := 42) hx hb dX7_numberOf_42 ?_
      refine lv_bipush (pc := 43) (v := 48) hx hb dX7_numberOf_43 (by decide) ?_
      refine lv_isub (pc := 45) hx hb dX7_numberOf_45 ?_
      refine lv_istore_n (pc := 46) (lv' := [(2, .int (((l2 * 10) + t3) - 48)), (0, .ref a0), (1, .int l1), (3, .int l3)]) hx hb dX7_numberOf_46 rfl hl (by decide) rfl (fun ls hl => ?_)
      refine lv_iinc (pc := 47) (v := l3 + 1) (lv' := [(3, .int (l3 + 1)), (2, .int (((l2 * 10) + t3) - 48)), (0, .ref a0), (1, .int l1)]) hx hb dX7_numberOf_47 hl (k := 3) rfl rfl (by decide) rfl (fun ls hl => ?_)
      refine lv_goto (pc := 50) (tgt := 23) hx hb dX7_numberOf_50 (by decide) ?_
      exact ih hI (lv_sub hl [2, 3, 1, 0] rfl) hf

set_option maxHeartbeats 4000000 in
set_option maxRecDepth 100000 in
theorem c_X7_numberOf (l : Launch) (G : GX) (a0 : Nat) (a1 : Nat) (a2 : Nat) (a3 : Nat) {l1 : Int32} {t_signs : Nat → Int32} {t_length : Int32} {t_whole : Int32} {t_begins : Nat → Int32} {t_ends : Nat → Int32} {res : Int32} (hf : f_X7_numberOf l1 t_signs t_length t_whole t_begins t_ends = some res) : MX l yX7_numberOf cX7_numberOf 4 (some .int) rm_X7_numberOf G (txw G a0 a1 a2 a3 t_signs t_length t_whole t_begins t_ends) [.ref (a0), .int l1] (txw G a0 a1 a2 a3 t_signs t_length t_whole t_begins t_ends) (some (.int res)) 0 0 := by
  refine MX.of (plainFor_of_name (by decide)) (Nat.le_of_ble_eq_true rfl) ?_
  intro p e s m below meth c A X E hI ls hl
  obtain ⟨hx, hb, hml, hown, hts, hr, hlk⟩ := id X
  have hl : lv_has ls 4 [(0, .ref a0), (1, .int l1)] := hl
  unfold f_X7_numberOf at hf
  refine lv_iconst (pc := 0) (v := 0) hx hb dX7_numberOf_0 (by decide) ?_
  refine lv_istore_n (pc := 1) (lv' := [(2, .int 0), (0, .ref a0), (1, .int l1)]) hx hb dX7_numberOf_1 rfl hl (by decide) rfl (fun ls hl => ?_)
  refine lv_iload_n (pc := 2) hx hb dX7_numberOf_2 rfl (lv_at hl 2 rfl) ?_
  refine lv_if_lt (pc := 3) (tgt := 53) hx hb dX7_numberOf_3 (by decide) (fun c1 => ?_) (fun c1 => ?_)
  · have hf := q_ip c1 hf
    refine lv_iload_n (pc := 53) hx hb dX7_numberOf_53 rfl (lv_at hl 0 rfl) ?_
    obtain rfl := Option.some.inj hf
    exact x_iret X hI dX7_numberOf_54
  · have hf := q_in c1 hf
    refine lv_iload_n (pc := 6) hx hb dX7_numberOf_6 rfl (lv_at hl 2 rfl) ?_
    refine lv_aload_n (pc := 7) hx hb dX7_numberOf_7 rfl (lv_at hl 1 rfl) ?_
    refine x_get (pc := 8) X E hI inX7 0 rfl rfl 2 (by decide) tw_1_171 rfl dX7_numberOf_8 ?_
    refine lv_icmp_ge (pc := 11) (tgt := 53) hx hb dX7_numberOf_11 (by decide) (fun c2 => ?_) (fun c2 => ?_)
    · have hf := q_ip c2 hf
      refine lv_iload_n (pc := 53) hx hb dX7_numberOf_53 rfl (lv_at hl 0 rfl) ?_
      obtain rfl := Option.some.inj hf
      exact x_iret X hI dX7_numberOf_54
    · have hf := q_in c2 hf
      refine lv_aload_n (pc := 14) hx hb dX7_numberOf_14 rfl (lv_at hl 1 rfl) ?_
      refine x_get (pc := 15) X E hI inX7 0 rfl rfl 3 (by decide) tw_1_173 rfl dX7_numberOf_15 ?_
      refine lv_iload_n (pc := 18) hx hb dX7_numberOf_18 rfl (lv_at hl 2 rfl) ?_
      obtain ⟨t3, e3, hf⟩ := q_ob hf
      refine x_iald (pc := 19) X E hI 2 rfl e3 dX7_numberOf_19 ?_
      refine lv_iconst (pc := 20) (v := 1) hx hb dX7_numberOf_20 (by decide) ?_
      refine lv_iadd (pc := 21) hx hb dX7_numberOf_21 ?_
      refine lv_istore_n (pc := 22) (lv' := [(3, .int (t3 + 1)), (2, .int 0), (0, .ref a0), (1, .int l1)]) hx hb dX7_numberOf_22 rfl hl (by decide) rfl (fun ls hl => ?_)
      refine k_X7_numberOf_L23 X E (fun l2_4 l3_4 H locs ls hI hl hf => ?_) hI (lv_sub hl [2, 3, 1, 0] rfl) hf
      refine lv_iload_n (pc := 53) hx hb dX7_numberOf_53 rfl (lv_at hl 2 rfl) ?_
      obtain rfl := Option.some.inj hf
      exact x_iret X hI dX7_numberOf_54

abbrev rm_X7_explain : Room := { frames := 2, cells := 0, slots := 0, locals := 44 }
set_option maxHeartbeats 4000000 in
set_option maxRecDepth 100000 in
theorem c_X7_explain (l : Launch) (G : GX) (a0 : Nat) (a1 : Nat) (a2 : Nat) (a3 : Nat) (d0 : Nat) (d1 : Nat) (d2 : Nat) {l1 : Int32} {t_signs : Nat → Int32} {t_length : Int32} {t_whole : Int32} {t_begins : Nat → Int32} {t_ends : Nat → Int32} {r_sorts : Nat → Int32} {r_numbers : Nat → Int32} {r_length : Int32} {res : (Nat → Int32) × (Nat → Int32) × Int32} (hf : f_X7_explain l1 t_signs t_length t_whole t_begins t_ends r_sorts r_numbers r_length = some res) : MX l yX7_explain cX7_explain 4 none rm_X7_explain G (ttw G a0 a1 a2 a3 d0 d1 d2 t_signs t_length t_whole t_begins t_ends r_sorts r_numbers r_length) [.ref (a0), .int l1, .ref (d0)] (ttw G a0 a1 a2 a3 d0 d1 d2 t_signs t_length t_whole t_begins t_ends res.1 res.2.1 res.2.2) none 0 0 := by
  refine MX.of (plainFor_of_name (by decide)) (Nat.le_of_ble_eq_true rfl) ?_
  intro p e s m below meth c A X E hI ls hl
  obtain ⟨hx, hb, hml, hown, hts, hr, hlk⟩ := id X
  have hl : lv_has ls 4 [(0, .ref a0), (1, .int l1), (2, .ref d0)] := hl
  unfold f_X7_explain at hf
  refine lv_aload_n (pc := 0) hx hb dX7_explain_0 rfl (lv_at hl 2 rfl) ?_
  refine lv_iconst (pc := 1) (v := 1) hx hb dX7_explain_1 (by decide) ?_
  refine lv_aload_n (pc := 2) hx hb dX7_explain_2 rfl (lv_at hl 0 rfl) ?_
  refine x_get (pc := 3) X E hI inX7 0 rfl rfl 2 (by decide) tw_1_171 rfl dX7_explain_3 ?_
  obtain ⟨t1, e1, hf⟩ := q_ob hf
  refine x_cVp (pc := 6) (st1 := []) (w2 := (ttw G a0 a1 a2 a3 d0 d1 d2 t_signs t_length t_whole t_begins t_ends t1.1 t1.2.1 t1.2.2)) X E hI (c_X8_begin l G d0 d1 d2 e1) kv_X7_45 hd_X8_begin ⟨rfl, rfl⟩ (by decide) pt_ttw_trw_0 pt_ttw_trw_0q 0 rfl rfl rfl rfl hl.1 rfl (Nat.le_of_ble_eq_true rfl) dX7_explain_6 ⟨Nat.le_of_ble_eq_true rfl, Nat.le_of_ble_eq_true rfl⟩ rfl (fun H locs hI => ?_)
  refine lv_aload_n (pc := 9) hx hb dX7_explain_9 rfl (lv_at hl 0 rfl) ?_
  refine x_get (pc := 10) X E hI inX7 0 rfl rfl 2 (by decide) tw_1_171 rfl dX7_explain_10 ?_
  refine lv_if_le (pc := 13) (tgt := 35) hx hb dX7_explain_13 (by decide) (fun c2 => ?_) (fun c2 => ?_)
  · have hf := q_ip c2 hf
    refine lv_iconst (pc := 35) (v := 0) hx hb dX7_explain_35 (by decide) ?_
    refine lv_istore_n (pc := 36) (lv' := [(3, .int 0), (0, .ref a0), (1, .int l1), (2, .ref d0)]) hx hb dX7_explain_36 rfl hl (by decide) rfl (fun ls hl => ?_)
    refine lv_iload_n (pc := 37) hx hb dX7_explain_37 rfl (lv_at hl 0 rfl) ?_
    refine lv_if_ne (pc := 38) (tgt := 50) hx hb dX7_explain_38 (by decide) (fun c3 => ?_) (fun c3 => ?_)
    · exact absurd c3 (by decide)
    · refine lv_aload_n (pc := 41) hx hb dX7_explain_41 rfl (lv_at hl 1 rfl) ?_
      refine x_get (pc := 42) X E hI inX7 0 rfl rfl 2 (by decide) tw_1_171 rfl dX7_explain_42 ?_
      refine lv_bipush (pc := 45) (v := 12) hx hb dX7_explain_45 (by decide) ?_
      refine lv_icmp_lt (pc := 47) (tgt := 61) hx hb dX7_explain_47 (by decide) (fun c4 => ?_) (fun c4 => ?_)
      · have hf := q_ip c4 hf
        refine lv_aload_n (pc := 61) hx hb dX7_explain_61 rfl (lv_at hl 3 rfl) ?_
        refine lv_iconst (pc := 62) (v := 2) hx hb dX7_explain_62 (by decide) ?_
        refine lv_aload_n (pc := 63) hx hb dX7_explain_63 rfl (lv_at hl 1 rfl) ?_
        refine x_get (pc := 64) X E hI inX7 0 rfl rfl 3 (by decide) tw_1_173 rfl dX7_explain_64 ?_
        refine lv_aload_n (pc := 67) hx hb dX7_explain_67 rfl (lv_at hl 1 rfl) ?_
        refine x_get (pc := 68) X E hI inX7 0 rfl rfl 2 (by decide) tw_1_171 rfl dX7_explain_68 ?_
        obtain ⟨t5, e5, hf⟩ := q_ob hf
        refine x_iald (pc := 71) X E hI 2 rfl e5 dX7_explain_71 ?_
        obtain ⟨t6, e6, hf⟩ := q_ob hf
        refine x_cVp (pc := 72) (st1 := []) (w2 := (ttw G a0 a1 a2 a3 d0 d1 d2 t_signs t_length t_whole t_begins t_ends t6.1 t6.2.1 t6.2.2)) X E hI (c_X8_because l G d0 d1 d2 e6) kv_X7_51 hd_X8_because ⟨rfl, rfl⟩ (by decide) pt_ttw_trw_0 pt_ttw_trw_0q 0 rfl rfl rfl rfl hl.1 rfl (Nat.le_of_ble_eq_true rfl) dX7_explain_72 ⟨Nat.le_of_ble_eq_true rfl, Nat.le_of_ble_eq_true rfl⟩ rfl (fun H locs hI => ?_)
        refine lv_iload_n (pc := 75) hx hb dX7_explain_75 rfl (lv_at hl 2 rfl) ?_
        refine lv_aload_n (pc := 76) hx hb dX7_explain_76 rfl (lv_at hl 1 rfl) ?_
        refine x_get (pc := 77) X E hI inX7 0 rfl rfl 3 (by decide) tw_1_173 rfl dX7_explain_77 ?_
        refine lv_aload_n (pc := 80) hx hb dX7_explain_80 rfl (lv_at hl 1 rfl) ?_
        refine x_get (pc := 81) X E hI inX7 0 rfl rfl 2 (by decide) tw_1_171 rfl dX7_explain_81 ?_
        obtain ⟨t7, e7, hf⟩ := q_ob hf
        refine x_iald (pc := 84) X E hI 2 rfl e7 dX7_explain_84 ?_
        refine lv_icmp_ne (pc := 85) (tgt := 101) hx hb dX7_explain_85 (by decide) (fun c8 => ?_) (fun c8 => ?_)
        · have hf := q_in c8 hf
          refine lv_aload_n (pc := 101) hx hb dX7_explain_101 rfl (lv_at hl 3 rfl) ?_
          refine lv_iconst (pc := 102) (v := 3) hx hb dX7_explain_102 (by decide) ?_
          refine lv_iload_n (pc := 103) hx hb dX7_explain_103 rfl (lv_at hl 2 rfl) ?_
          obtain ⟨t9, e9, hf⟩ := q_ob hf
          refine x_cVp (pc := 104) (st1 := []) (w2 := (ttw G a0 a1 a2 a3 d0 d1 d2 t_signs t_length t_whole t_begins t_ends t9.1 t9.2.1 t9.2.2)) X E hI (c_X8_because l G d0 d1 d2 e9) kv_X7_51 hd_X8_because ⟨rfl, rfl⟩ (by decide) pt_ttw_trw_0 pt_ttw_trw_0q 0 rfl rfl rfl rfl hl.1 rfl (Nat.le_of_ble_eq_true rfl) dX7_explain_104 ⟨Nat.le_of_ble_eq_true rfl, Nat.le_of_ble_eq_true rfl⟩ rfl (fun H locs hI => ?_)
          obtain rfl := Option.some.inj hf
          exact x_vret X hI dX7_explain_107
        · have hf := q_ip c8 hf
          refine lv_aload_n (pc := 88) hx hb dX7_explain_88 rfl (lv_at hl 3 rfl) ?_
          refine lv_iconst (pc := 89) (v := 4) hx hb dX7_explain_89 (by decide) ?_
          refine lv_aload_n (pc := 90) hx hb dX7_explain_90 rfl (lv_at hl 1 rfl) ?_
          refine lv_iload_n (pc := 91) hx hb dX7_explain_91 rfl (lv_at hl 2 rfl) ?_
          obtain ⟨t10, e10, hf⟩ := q_ob hf
          refine x_cVp (pc := 92) (st1 := [.int t10, .int 4, .ref d0]) (w2 := (ttw G a0 a1 a2 a3 d0 d1 d2 t_signs t_length t_whole t_begins t_ends t6.1 t6.2.1 t6.2.2)) X E hI (c_X7_signAt l G a0 a1 a2 a3 e10) kv_X7_25 hd_X7_signAt ⟨rfl, rfl⟩ (by decide) pt_ttw_txw_0 pt_ttw_txw_0q 0 rfl rfl rfl rfl hl.1 rfl (Nat.le_of_ble_eq_true rfl) dX7_explain_92 ⟨Nat.le_of_ble_eq_true rfl, Nat.le_of_ble_eq_true rfl⟩ rfl (fun H locs hI => ?_)
          obtain ⟨t11, e11, hf⟩ := q_ob hf
          refine x_cVp (pc := 95) (st1 := []) (w2 := (ttw G a0 a1 a2 a3 d0 d1 d2 t_signs t_length t_whole t_begins t_ends t11.1 t11.2.1 t11.2.2)) X E hI (c_X8_because l G d0 d1 d2 e11) kv_X7_51 hd_X8_because ⟨rfl, rfl⟩ (by decide) pt_ttw_trw_0 pt_ttw_trw_0q 0 rfl rfl rfl rfl hl.1 rfl (Nat.le_of_ble_eq_true rfl) dX7_explain_95 ⟨Nat.le_of_ble_eq_true rfl, Nat.le_of_ble_eq_true rfl⟩ rfl (fun H locs hI => ?_)
          refine lv_goto (pc := 98) (tgt := 107) hx hb dX7_explain_98 (by decide) ?_
          obtain rfl := Option.some.inj hf
          exact x_vret X hI dX7_explain_107
      · have hf := q_in c4 hf
        refine lv_aload_n (pc := 50) hx hb dX7_explain_50 rfl (lv_at hl 3 rfl) ?_
        refine lv_iconst (pc := 51) (v := 4) hx hb dX7_explain_51 (by decide) ?_
        refine lv_aload_n (pc := 52) hx hb dX7_explain_52 rfl (lv_at hl 1 rfl) ?_
        refine lv_iload_n (pc := 53) hx hb dX7_explain_53 rfl (lv_at hl 2 rfl) ?_
        obtain ⟨t12, e12, hf⟩ := q_ob hf
        refine x_cVp (pc := 54) (st1 := [.int t12, .int 4, .ref d0]) (w2 := (ttw G a0 a1 a2 a3 d0 d1 d2 t_signs t_length t_whole t_begins t_ends t1.1 t1.2.1 t1.2.2)) X E hI (c_X7_signAt l G a0 a1 a2 a3 e12) kv_X7_25 hd_X7_signAt ⟨rfl, rfl⟩ (by decide) pt_ttw_txw_0 pt_ttw_txw_0q 0 rfl rfl rfl rfl hl.1 rfl (Nat.le_of_ble_eq_true rfl) dX7_explain_54 ⟨Nat.le_of_ble_eq_true rfl, Nat.le_of_ble_eq_true rfl⟩ rfl (fun H locs hI => ?_)
        obtain ⟨t13, e13, hf⟩ := q_ob hf
        refine x_cVp (pc := 57) (st1 := []) (w2 := (ttw G a0 a1 a2 a3 d0 d1 d2 t_signs t_length t_whole t_begins t_ends t13.1 t13.2.1 t13.2.2)) X E hI (c_X8_because l G d0 d1 d2 e13) kv_X7_51 hd_X8_because ⟨rfl, rfl⟩ (by decide) pt_ttw_trw_0 pt_ttw_trw_0q 0 rfl rfl rfl rfl hl.1 rfl (Nat.le_of_ble_eq_true rfl) dX7_explain_57 ⟨Nat.le_of_ble_eq_true rfl, Nat.le_of_ble_eq_true rfl⟩ rfl (fun H locs hI => ?_)
        obtain rfl := Option.some.inj hf
        exact x_vret X hI dX7_explain_60
  · have hf := q_in c2 hf
    refine lv_iload_n (pc := 16) hx hb dX7_explain_16 rfl (lv_at hl 1 rfl) ?_
    refine lv_aload_n (pc := 17) hx hb dX7_explain_17 rfl (lv_at hl 0 rfl) ?_
    refine x_get (pc := 18) X E hI inX7 0 rfl rfl 4 (by decide) tw_1_174 rfl dX7_explain_18 ?_
    refine lv_aload_n (pc := 21) hx hb dX7_explain_21 rfl (lv_at hl 0 rfl) ?_
    refine x_get (pc := 22) X E hI inX7 0 rfl rfl 2 (by decide) tw_1_171 rfl dX7_explain_22 ?_
    refine lv_iconst (pc := 25) (v := 1) hx hb dX7_explain_25 (by decide) ?_
    refine lv_isub (pc := 26) hx hb dX7_explain_26 ?_
    obtain ⟨t14, e14, hf⟩ := q_ob hf
    refine x_iald (pc := 27) X E hI 3 rfl e14 dX7_explain_27 ?_
    refine lv_icmp_ne (pc := 28) (tgt := 35) hx hb dX7_explain_28 (by decide) (fun c15 => ?_) (fun c15 => ?_)
    · have hf := q_in c15 hf
      refine lv_iconst (pc := 35) (v := 0) hx hb dX7_explain_35 (by decide) ?_
      refine lv_istore_n (pc := 36) (lv' := [(3, .int 0), (0, .ref a0), (1, .int l1), (2, .ref d0)]) hx hb dX7_explain_36 rfl hl (by decide) rfl (fun ls hl => ?_)
      refine lv_iload_n (pc := 37) hx hb dX7_explain_37 rfl (lv_at hl 0 rfl) ?_
      refine lv_if_ne (pc := 38) (tgt := 50) hx hb dX7_explain_38 (by decide) (fun c16 => ?_) (fun c16 => ?_)
      · exact absurd c16 (by decide)
      · refine lv_aload_n (pc := 41) hx hb dX7_explain_41 rfl (lv_at hl 1 rfl) ?_
        refine x_get (pc := 42) X E hI inX7 0 rfl rfl 2 (by decide) tw_1_171 rfl dX7_explain_42 ?_
        refine lv_bipush (pc := 45) (v := 12) hx hb dX7_explain_45 (by decide) ?_
        refine lv_icmp_lt (pc := 47) (tgt := 61) hx hb dX7_explain_47 (by decide) (fun c17 => ?_) (fun c17 => ?_)
        · have hf := q_ip c17 hf
          refine lv_aload_n (pc := 61) hx hb dX7_explain_61 rfl (lv_at hl 3 rfl) ?_
          refine lv_iconst (pc := 62) (v := 2) hx hb dX7_explain_62 (by decide) ?_
          refine lv_aload_n (pc := 63) hx hb dX7_explain_63 rfl (lv_at hl 1 rfl) ?_
          refine x_get (pc := 64) X E hI inX7 0 rfl rfl 3 (by decide) tw_1_173 rfl dX7_explain_64 ?_
          refine lv_aload_n (pc := 67) hx hb dX7_explain_67 rfl (lv_at hl 1 rfl) ?_
          refine x_get (pc := 68) X E hI inX7 0 rfl rfl 2 (by decide) tw_1_171 rfl dX7_explain_68 ?_
          obtain ⟨t18, e18, hf⟩ := q_ob hf
          refine x_iald (pc := 71) X E hI 2 rfl e18 dX7_explain_71 ?_
          obtain ⟨t19, e19, hf⟩ := q_ob hf
          refine x_cVp (pc := 72) (st1 := []) (w2 := (ttw G a0 a1 a2 a3 d0 d1 d2 t_signs t_length t_whole t_begins t_ends t19.1 t19.2.1 t19.2.2)) X E hI (c_X8_because l G d0 d1 d2 e19) kv_X7_51 hd_X8_because ⟨rfl, rfl⟩ (by decide) pt_ttw_trw_0 pt_ttw_trw_0q 0 rfl rfl rfl rfl hl.1 rfl (Nat.le_of_ble_eq_true rfl) dX7_explain_72 ⟨Nat.le_of_ble_eq_true rfl, Nat.le_of_ble_eq_true rfl⟩ rfl (fun H locs hI => ?_)
          refine lv_iload_n (pc := 75) hx hb dX7_explain_75 rfl (lv_at hl 2 rfl) ?_
          refine lv_aload_n (pc := 76) hx hb dX7_explain_76 rfl (lv_at hl 1 rfl) ?_
          refine x_get (pc := 77) X E hI inX7 0 rfl rfl 3 (by decide) tw_1_173 rfl dX7_explain_77 ?_
          refine lv_aload_n (pc := 80) hx hb dX7_explain_80 rfl (lv_at hl 1 rfl) ?_
          refine x_get (pc := 81) X E hI inX7 0 rfl rfl 2 (by decide) tw_1_171 rfl dX7_explain_81 ?_
          obtain ⟨t20, e20, hf⟩ := q_ob hf
          refine x_iald (pc := 84) X E hI 2 rfl e20 dX7_explain_84 ?_
          refine lv_icmp_ne (pc := 85) (tgt := 101) hx hb dX7_explain_85 (by decide) (fun c21 => ?_) (fun c21 => ?_)
          · have hf := q_in c21 hf
            refine lv_aload_n (pc := 101) hx hb dX7_explain_101 rfl (lv_at hl 3 rfl) ?_
            refine lv_iconst (pc := 102) (v := 3) hx hb dX7_explain_102 (by decide) ?_
            refine lv_iload_n (pc := 103) hx hb dX7_explain_103 rfl (lv_at hl 2 rfl) ?_
            obtain ⟨t22, e22, hf⟩ := q_ob hf
            refine x_cVp (pc := 104) (st1 := []) (w2 := (ttw G a0 a1 a2 a3 d0 d1 d2 t_signs t_length t_whole t_begins t_ends t22.1 t22.2.1 t22.2.2)) X E hI (c_X8_because l G d0 d1 d2 e22) kv_X7_51 hd_X8_because ⟨rfl, rfl⟩ (by decide) pt_ttw_trw_0 pt_ttw_trw_0q 0 rfl rfl rfl rfl hl.1 rfl (Nat.le_of_ble_eq_true rfl) dX7_explain_104 ⟨Nat.le_of_ble_eq_true rfl, Nat.le_of_ble_eq_true rfl⟩ rfl (fun H locs hI => ?_)
            obtain rfl := Option.some.inj hf
            exact x_vret X hI dX7_explain_107
          · have hf := q_ip c21 hf
            refine lv_aload_n (pc := 88) hx hb dX7_explain_88 rfl (lv_at hl 3 rfl) ?_
            refine lv_iconst (pc := 89) (v := 4) hx hb dX7_explain_89 (by decide) ?_
            refine lv_aload_n (pc := 90) hx hb dX7_explain_90 rfl (lv_at hl 1 rfl) ?_
            refine lv_iload_n (pc := 91) hx hb dX7_explain_91 rfl (lv_at hl 2 rfl) ?_
            obtain ⟨t23, e23, hf⟩ := q_ob hf
            refine x_cVp (pc := 92) (st1 := [.int t23, .int 4, .ref d0]) (w2 := (ttw G a0 a1 a2 a3 d0 d1 d2 t_signs t_length t_whole t_begins t_ends t19.1 t19.2.1 t19.2.2)) X E hI (c_X7_signAt l G a0 a1 a2 a3 e23) kv_X7_25 hd_X7_signAt ⟨rfl, rfl⟩ (by decide) pt_ttw_txw_0 pt_ttw_txw_0q 0 rfl rfl rfl rfl hl.1 rfl (Nat.le_of_ble_eq_true rfl) dX7_explain_92 ⟨Nat.le_of_ble_eq_true rfl, Nat.le_of_ble_eq_true rfl⟩ rfl (fun H locs hI => ?_)
            obtain ⟨t24, e24, hf⟩ := q_ob hf
            refine x_cVp (pc := 95) (st1 := []) (w2 := (ttw G a0 a1 a2 a3 d0 d1 d2 t_signs t_length t_whole t_begins t_ends t24.1 t24.2.1 t24.2.2)) X E hI (c_X8_because l G d0 d1 d2 e24) kv_X7_51 hd_X8_because ⟨rfl, rfl⟩ (by decide) pt_ttw_trw_0 pt_ttw_trw_0q 0 rfl rfl rfl rfl hl.1 rfl (Nat.le_of_ble_eq_true rfl) dX7_explain_95 ⟨Nat.le_of_ble_eq_true rfl, Nat.le_of_ble_eq_true rfl⟩ rfl (fun H locs hI => ?_)
            refine lv_goto (pc := 98) (tgt := 107) hx hb dX7_explain_98 (by decide) ?_
            obtain rfl := Option.some.inj hf
            exact x_vret X hI dX7_explain_107
        · have hf := q_in c17 hf
          refine lv_aload_n (pc := 50) hx hb dX7_explain_50 rfl (lv_at hl 3 rfl) ?_
          refine lv_iconst (pc := 51) (v := 4) hx hb dX7_explain_51 (by decide) ?_
          refine lv_aload_n (pc := 52) hx hb dX7_explain_52 rfl (lv_at hl 1 rfl) ?_
          refine lv_iload_n (pc := 53) hx hb dX7_explain_53 rfl (lv_at hl 2 rfl) ?_
          obtain ⟨t25, e25, hf⟩ := q_ob hf
          refine x_cVp (pc := 54) (st1 := [.int t25, .int 4, .ref d0]) (w2 := (ttw G a0 a1 a2 a3 d0 d1 d2 t_signs t_length t_whole t_begins t_ends t1.1 t1.2.1 t1.2.2)) X E hI (c_X7_signAt l G a0 a1 a2 a3 e25) kv_X7_25 hd_X7_signAt ⟨rfl, rfl⟩ (by decide) pt_ttw_txw_0 pt_ttw_txw_0q 0 rfl rfl rfl rfl hl.1 rfl (Nat.le_of_ble_eq_true rfl) dX7_explain_54 ⟨Nat.le_of_ble_eq_true rfl, Nat.le_of_ble_eq_true rfl⟩ rfl (fun H locs hI => ?_)
          obtain ⟨t26, e26, hf⟩ := q_ob hf
          refine x_cVp (pc := 57) (st1 := []) (w2 := (ttw G a0 a1 a2 a3 d0 d1 d2 t_signs t_length t_whole t_begins t_ends t26.1 t26.2.1 t26.2.2)) X E hI (c_X8_because l G d0 d1 d2 e26) kv_X7_51 hd_X8_because ⟨rfl, rfl⟩ (by decide) pt_ttw_trw_0 pt_ttw_trw_0q 0 rfl rfl rfl rfl hl.1 rfl (Nat.le_of_ble_eq_true rfl) dX7_explain_57 ⟨Nat.le_of_ble_eq_true rfl, Nat.le_of_ble_eq_true rfl⟩ rfl (fun H locs hI => ?_)
          obtain rfl := Option.some.inj hf
          exact x_vret X hI dX7_explain_60
    · have hf := q_ip c15 hf
      refine lv_iconst (pc := 31) (v := 1) hx hb dX7_explain_31 (by decide) ?_
      refine lv_goto (pc := 32) (tgt := 36) hx hb dX7_explain_32 (by decide) ?_
      refine lv_istore_n (pc := 36) (lv' := [(3, .int 1), (0, .ref a0), (1, .int l1), (2, .ref d0)]) hx hb dX7_explain_36 rfl hl (by decide) rfl (fun ls hl => ?_)
      refine lv_iload_n (pc := 37) hx hb dX7_explain_37 rfl (lv_at hl 0 rfl) ?_
      refine lv_if_ne (pc := 38) (tgt := 50) hx hb dX7_explain_38 (by decide) (fun c27 => ?_) (fun c27 => ?_)
      · refine lv_aload_n (pc := 50) hx hb dX7_explain_50 rfl (lv_at hl 3 rfl) ?_
        refine lv_iconst (pc := 51) (v := 4) hx hb dX7_explain_51 (by decide) ?_
        refine lv_aload_n (pc := 52) hx hb dX7_explain_52 rfl (lv_at hl 1 rfl) ?_
        refine lv_iload_n (pc := 53) hx hb dX7_explain_53 rfl (lv_at hl 2 rfl) ?_
        obtain ⟨t28, e28, hf⟩ := q_ob hf
        refine x_cVp (pc := 54) (st1 := [.int t28, .int 4, .ref d0]) (w2 := (ttw G a0 a1 a2 a3 d0 d1 d2 t_signs t_length t_whole t_begins t_ends t1.1 t1.2.1 t1.2.2)) X E hI (c_X7_signAt l G a0 a1 a2 a3 e28) kv_X7_25 hd_X7_signAt ⟨rfl, rfl⟩ (by decide) pt_ttw_txw_0 pt_ttw_txw_0q 0 rfl rfl rfl rfl hl.1 rfl (Nat.le_of_ble_eq_true rfl) dX7_explain_54 ⟨Nat.le_of_ble_eq_true rfl, Nat.le_of_ble_eq_true rfl⟩ rfl (fun H locs hI => ?_)
        obtain ⟨t29, e29, hf⟩ := q_ob hf
        refine x_cVp (pc := 57) (st1 := []) (w2 := (ttw G a0 a1 a2 a3 d0 d1 d2 t_signs t_length t_whole t_begins t_ends t29.1 t29.2.1 t29.2.2)) X E hI (c_X8_because l G d0 d1 d2 e29) kv_X7_51 hd_X8_because ⟨rfl, rfl⟩ (by decide) pt_ttw_trw_0 pt_ttw_trw_0q 0 rfl rfl rfl rfl hl.1 rfl (Nat.le_of_ble_eq_true rfl) dX7_explain_57 ⟨Nat.le_of_ble_eq_true rfl, Nat.le_of_ble_eq_true rfl⟩ rfl (fun H locs hI => ?_)
        obtain rfl := Option.some.inj hf
        exact x_vret X hI dX7_explain_60
      · exact absurd c27 (by decide)

abbrev rm_X6_holds : Room := { frames := 0, cells := 0, slots := 0, locals := 0 }
set_option maxHeartbeats 4000000 in
set_option maxRecDepth 100000 in
theorem c_X6_holds (l : Launch) (G : GX) (a0 : Nat) (a1 : Nat) {k_sort : Int32} {k_length : Int32} {k_items : Nat → Int64} {res : Int32} (hf : f_X6_holds k_sort = some res) : MX l yX6_holds cX6_holds 1 (some .boolean) rm_X6_holds G (kw G a0 a1 k_sort k_length k_items) [.ref (a0)] (kw G a0 a1 k_sort k_length k_items) (some (.int res)) 0 0 := by
  refine MX.of (plainFor_of_name (by decide)) (Nat.le_of_ble_eq_true rfl) ?_
  intro p e s m below meth c A X E hI ls hl
  obtain ⟨hx, hb, hml, hown, hts, hr, hlk⟩ := id X
  have hl : lv_has ls 1 [(0, .ref a0)] := hl
  unfold f_X6_holds at hf
  refine lv_aload_n (pc := 0) hx hb dX6_holds_0 rfl (lv_at hl 0 rfl) ?_
  refine x_get (pc := 1) X E hI inX6 0 rfl rfl 0 (by decide) tw_1_212 rfl dX6_holds_1 ?_
  refine lv_iconst (pc := 4) (v := (-1)) hx hb dX6_holds_4 (by decide) ?_
  refine lv_icmp_eq (pc := 5) (tgt := 12) hx hb dX6_holds_5 (by decide) (fun c1 => ?_) (fun c1 => ?_)
  · have hf := q_ip c1 hf
    refine lv_iconst (pc := 12) (v := 0) hx hb dX6_holds_12 (by decide) ?_
    obtain rfl := Option.some.inj hf
    exact x_zret X hI (Or.inl rfl) dX6_holds_13
  · have hf := q_in c1 hf
    refine lv_iconst (pc := 8) (v := 1) hx hb dX6_holds_8 (by decide) ?_
    refine lv_goto (pc := 9) (tgt := 13) hx hb dX6_holds_9 (by decide) ?_
    obtain rfl := Option.some.inj hf
    exact x_zret X hI (Or.inr rfl) dX6_holds_13

abbrev rm_X6_hold : Room := { frames := 0, cells := 0, slots := 0, locals := 0 }
set_option maxHeartbeats 4000000 in
set_option maxRecDepth 100000 in
theorem k_X6_hold_L12 {p : Program} {l : Launch} {e : Env} {s : State} {m : MethodId} {args : Array Value} {below : List Frame} {meth : Method} {c : Code} {A : Nat → Prop} {G : GX} {a0 : Nat} {a1 : Nat} {k_sort : Int32} {k_length : Int32} {K : Int32 → (Nat → Int64) → Option (Int32 × Int32 × (Nat → Int64))} {res : Int32 × Int32 × (Nat → Int64)} (X : CX RX6 cX6_hold 4 none p s m args meth c) (E : EX G A s)
    (hK : ∀ (l3 : Int32) (k_items : (Nat → Int64)) (H : Heap) (locs : List Loc) (ls : Array Slot), IN A G (kw G a0 a1 k_sort k_length k_items) s H locs → lv_has ls 4 [(0, .ref a0), (3, .int l3)] → K l3 k_items = some res → W p l e rm_X6_hold s m args below meth c H locs 0 0 (MQ below (QX G A (kw G a0 a1 res.1 res.2.1 res.2.2) none) args s 0 0 A) (F0 m 31 ls [])) :
    ∀ {k : Nat} {l3 : Int32} {k_items : (Nat → Int64)} {H : Heap} {locs : List Loc} {ls : Array Slot}, IN A G (kw G a0 a1 k_sort k_length k_items) s H locs → lv_has ls 4 [(0, .ref a0), (3, .int l3)] → f_X6_hold_L12 K k l3 k_items = some res → W p l e rm_X6_hold s m args below meth c H locs 0 0 (MQ below (QX G A (kw G a0 a1 res.1 res.2.1 res.2.2) none) args s 0 0 A) (F0 m 12 ls []) := by
  obtain ⟨hx, hb, hml, hown, hts, hr, hlk⟩ := id X
  intro k
  induction k with
  | zero => intro l3 k_items H locs ls hI hl hf; exact nomatch (show none = some res from hf)
  | succ k ih =>
    intro l3 k_items H locs ls hI hl hf
    rw [f_X6_hold_L12] at hf
    refine lv_iload_n (pc := 12) hx hb dX6_hold_12 rfl (lv_at hl 1 rfl) ?_
    refine lv_bipush (pc := 13) (v := 60) hx hb dX6_hold_13 (by decide) ?_
    refine lv_icmp_ge (pc := 15) (tgt := 31) hx hb dX6_hold_15 (by decide) (fun c1 => ?_) (fun c1 => ?_)
    · have hf := q_ip c1 hf
      exact hK _ _ _ _ _ hI (lv_sub hl [0, 1] rfl) hf
    · have hf := q_in c1 hf
      refine lv_aload_n (pc := 18) hx hb dX6_hold_18 rfl (lv_at hl 0 rfl) ?_
      refine x_get (pc := 19) X E hI inX6 0 rfl rfl 2 (by decide) tw_1_216 rfl dX6_hold_19 ?_
      refine lv_iload_n (pc := 22) hx hb dX6_hold_22 rfl (lv_at hl 1 rfl) ?_
      refine lv_lconst (pc := 23) (v := 0) hx hb dX6_hold_23 (by decide) ?_
      obtain ⟨t2, e2, hf⟩ := q_ob hf
      refine x_last (pc := 24) (w' := (kw G a0 a1 k_sort k_length t2)) X E hI 1 rfl e2 rfl dX6_hold_24 (fun H locs hI => ?_)
      refine lv_iinc (pc := 25) (v := l3 + 1) (lv' := [(3, .int (l3 + 1)), (0, .ref a0)]) hx hb dX6_hold_25 hl (k := 1) rfl rfl (by decide) rfl (fun ls hl => ?_)
      refine lv_goto (pc := 28) (tgt := 12) hx hb dX6_hold_28 (by decide) ?_
      exact ih hI (lv_sub hl [1, 0] rfl) hf

set_option maxHeartbeats 4000000 in
set_option maxRecDepth 100000 in
theorem c_X6_hold (l : Launch) (G : GX) (a0 : Nat) (a1 : Nat) {l1 : Int32} {l2 : Int32} {k_sort : Int32} {k_length : Int32} {k_items : Nat → Int64} {res : Int32 × Int32 × (Nat → Int64)} (hf : f_X6_hold l1 l2 k_sort k_length k_items = some res) : MX l yX6_hold cX6_hold 4 none rm_X6_hold G (kw G a0 a1 k_sort k_length k_items) [.ref (a0), .int l1, .int l2] (kw G a0 a1 res.1 res.2.1 res.2.2) none 0 0 := by
  refine MX.of (plainFor_of_name (by decide)) (Nat.le_of_ble_eq_true rfl) ?_
  intro p e s m below meth c A X E hI ls hl
  obtain ⟨hx, hb, hml, hown, hts, hr, hlk⟩ := id X
  have hl : lv_has ls 4 [(0, .ref a0), (1, .int l1), (2, .int l2)] := hl
  unfold f_X6_hold at hf
  refine lv_aload_n (pc := 0) hx hb dX6_hold_0 rfl (lv_at hl 0 rfl) ?_
  refine lv_iload_n (pc := 1) hx hb dX6_hold_1 rfl (lv_at hl 1 rfl) ?_
  refine x_put (pc := 2) (w' := (kw G a0 a1 l1 k_length k_items)) X E hI inX6 tyX6 tyX6_ok nmX6 0 rfl rfl 0 (by decide) tw_1_212 rfl rfl rfl (Nat.le_of_ble_eq_true rfl) rfl dX6_hold_2 (fun H locs hI => ?_)
  refine lv_aload_n (pc := 5) hx hb dX6_hold_5 rfl (lv_at hl 0 rfl) ?_
  refine lv_iload_n (pc := 6) hx hb dX6_hold_6 rfl (lv_at hl 2 rfl) ?_
  refine x_put (pc := 7) (w' := (kw G a0 a1 l1 l2 k_items)) X E hI inX6 tyX6 tyX6_ok nmX6 0 rfl rfl 1 (by decide) tw_1_214 rfl rfl rfl (Nat.le_of_ble_eq_true rfl) rfl dX6_hold_7 (fun H locs hI => ?_)
  refine lv_iconst (pc := 10) (v := 0) hx hb dX6_hold_10 (by decide) ?_
  refine lv_istore_n (pc := 11) (lv' := [(3, .int 0), (0, .ref a0), (1, .int l1), (2, .int l2)]) hx hb dX6_hold_11 rfl hl (by decide) rfl (fun ls hl => ?_)
  refine k_X6_hold_L12 X E (fun l3_1 k_items_1 H locs ls hI hl hf => ?_) hI (lv_sub hl [1, 0] rfl) hf
  obtain rfl := Option.some.inj hf
  exact x_vret X hI dX6_hold_31

abbrev rm_X6_hasRoom : Room := { frames := 0, cells := 0, slots := 0, locals := 0 }
set_option maxHeartbeats 4000000 in
set_option maxRecDepth 100000 in
theorem c_X6_hasRoom (l : Launch) (G : GX) (a0 : Nat) (a1 : Nat) {l1 : Int32} {l2 : Int32} {k_length : Int32} {k_sort : Int32} {k_items : Nat → Int64} {res : Int32} (hf : f_X6_hasRoom l1 l2 k_length = some res) : MX l yX6_hasRoom cX6_hasRoom 3 (some .boolean) rm_X6_hasRoom G (kw G a0 a1 k_sort k_length k_items) [.ref (a0), .int l1, .int l2] (kw G a0 a1 k_sort k_length k_items) (some (.int res)) 0 0 := by
  refine MX.of (plainFor_of_name (by decide)) (Nat.le_of_ble_eq_true rfl) ?_
  intro p e s m below meth c A X E hI ls hl
  obtain ⟨hx, hb, hml, hown, hts, hr, hlk⟩ := id X
  have hl : lv_has ls 3 [(0, .ref a0), (1, .int l1), (2, .int l2)] := hl
  unfold f_X6_hasRoom at hf
  refine lv_iload_n (pc := 0) hx hb dX6_hasRoom_0 rfl (lv_at hl 1 rfl) ?_
  refine lv_if_lt (pc := 1) (tgt := 18) hx hb dX6_hasRoom_1 (by decide) (fun c1 => ?_) (fun c1 => ?_)
  · have hf := q_ip c1 hf
    refine lv_iconst (pc := 18) (v := 0) hx hb dX6_hasRoom_18 (by decide) ?_
    obtain rfl := Option.some.inj hf
    exact x_zret X hI (Or.inl rfl) dX6_hasRoom_19
  · have hf := q_in c1 hf
    refine lv_iload_n (pc := 4) hx hb dX6_hasRoom_4 rfl (lv_at hl 1 rfl) ?_
    refine lv_aload_n (pc := 5) hx hb dX6_hasRoom_5 rfl (lv_at hl 0 rfl) ?_
    refine x_get (pc := 6) X E hI inX6 0 rfl rfl 1 (by decide) tw_1_214 rfl dX6_hasRoom_6 ?_
    refine lv_iload_n (pc := 9) hx hb dX6_hasRoom_9 rfl (lv_at hl 2 rfl) ?_
    refine lv_isub (pc := 10) hx hb dX6_hasRoom_10 ?_
    refine lv_icmp_gt (pc := 11) (tgt := 18) hx hb dX6_hasRoom_11 (by decide) (fun c2 => ?_) (fun c2 => ?_)
    · have hf := q_ip c2 hf
      refine lv_iconst (pc := 18) (v := 0) hx hb dX6_hasRoom_18 (by decide) ?_
      obtain rfl := Option.some.inj hf
      exact x_zret X hI (Or.inl rfl) dX6_hasRoom_19
    · have hf := q_in c2 hf
      refine lv_iconst (pc := 14) (v := 1) hx hb dX6_hasRoom_14 (by decide) ?_
      refine lv_goto (pc := 15) (tgt := 19) hx hb dX6_hasRoom_15 (by decide) ?_
      obtain rfl := Option.some.inj hf
      exact x_zret X hI (Or.inr rfl) dX6_hasRoom_19

abbrev rm_X6_cut : Room := { frames := 0, cells := 0, slots := 0, locals := 0 }
set_option maxHeartbeats 4000000 in
set_option maxRecDepth 100000 in
theorem c_X6_cut (l : Launch) (G : GX) (a0 : Nat) (a1 : Nat) {l1 : Int64} {k_sort : Int32} {k_length : Int32} {k_items : Nat → Int64} {res : Int64} (hf : f_X6_cut l1 k_sort = some res) : MX l yX6_cut cX6_cut 3 (some .long) rm_X6_cut G (kw G a0 a1 k_sort k_length k_items) [.ref (a0), .long l1] (kw G a0 a1 k_sort k_length k_items) (some (.long res)) 0 0 := by
  refine MX.of (plainFor_of_name (by decide)) (Nat.le_of_ble_eq_true rfl) ?_
  intro p e s m below meth c A X E hI ls hl
  obtain ⟨hx, hb, hml, hown, hts, hr, hlk⟩ := id X
  have hl : lv_has ls 3 [(0, .ref a0), (1, .long l1)] := hl
  unfold f_X6_cut at hf
  refine lv_aload_n (pc := 0) hx hb dX6_cut_0 rfl (lv_at hl 0 rfl) ?_
  refine x_get (pc := 1) X E hI inX6 0 rfl rfl 0 (by decide) tw_1_212 rfl dX6_cut_1 ?_
  rcases Decidable.em (k_sort = 0) with c1 | c1
  · refine lv_tableIn (pc := 4) (tgt := 40) hx hb dX6_cut_4 (by rw [c1]; decide) (by rw [c1]; decide) (by rw [c1]; rfl) (by decide) ?_
    have hf := q_ip c1 hf
    refine lv_lload_n (pc := 40) hx hb dX6_cut_40 rfl (lv_at hl 1 rfl) ?_
    refine lv_l2i (pc := 41) (v := (l1 : Int64).toInt32) hx hb dX6_cut_41 rfl ?_
    refine lv_i2b (pc := 42) (v := ((l1 : Int64).toInt32 : Int32).toInt8.toInt32) hx hb dX6_cut_42 rfl ?_
    refine lv_i2l (pc := 43) (v := (((l1 : Int64).toInt32 : Int32).toInt8.toInt32 : Int32).toInt64) hx hb dX6_cut_43 rfl ?_
    obtain rfl := Option.some.inj hf
    exact x_lret X hI dX6_cut_44
  · have hf := q_in c1 hf
    rcases Decidable.em (k_sort = 1) with c2 | c2
    · refine lv_tableIn (pc := 4) (tgt := 45) hx hb dX6_cut_4 (by rw [c2]; decide) (by rw [c2]; decide) (by rw [c2]; rfl) (by decide) ?_
      have hf := q_ip c2 hf
      refine lv_lload_n (pc := 45) hx hb dX6_cut_45 rfl (lv_at hl 1 rfl) ?_
      refine lv_l2i (pc := 46) (v := (l1 : Int64).toInt32) hx hb dX6_cut_46 rfl ?_
      refine lv_i2s (pc := 47) (v := ((l1 : Int64).toInt32 : Int32).toInt16.toInt32) hx hb dX6_cut_47 rfl ?_
      refine lv_i2l (pc := 48) (v := (((l1 : Int64).toInt32 : Int32).toInt16.toInt32 : Int32).toInt64) hx hb dX6_cut_48 rfl ?_
      obtain rfl := Option.some.inj hf
      exact x_lret X hI dX6_cut_49
    · have hf := q_in c2 hf
      rcases Decidable.em (k_sort = 2) with c3 | c3
      · refine lv_tableIn (pc := 4) (tgt := 50) hx hb dX6_cut_4 (by rw [c3]; decide) (by rw [c3]; decide) (by rw [c3]; rfl) (by decide) ?_
        have hf := q_ip c3 hf
        refine lv_lload_n (pc := 50) hx hb dX6_cut_50 rfl (lv_at hl 1 rfl) ?_
        refine lv_l2i (pc := 51) (v := (l1 : Int64).toInt32) hx hb dX6_cut_51 rfl ?_
        refine lv_i2l (pc := 52) (v := ((l1 : Int64).toInt32 : Int32).toInt64) hx hb dX6_cut_52 rfl ?_
        obtain rfl := Option.some.inj hf
        exact x_lret X hI dX6_cut_53
      · have hf := q_in c3 hf
        rcases Decidable.em (k_sort = 4) with c4 | c4
        · refine lv_tableIn (pc := 4) (tgt := 54) hx hb dX6_cut_4 (by rw [c4]; decide) (by rw [c4]; decide) (by rw [c4]; rfl) (by decide) ?_
          have hf := q_ip c4 hf
          refine lv_lload_n (pc := 54) hx hb dX6_cut_54 rfl (lv_at hl 1 rfl) ?_
          refine lv_lconst (pc := 55) (v := 0) hx hb dX6_cut_55 (by decide) ?_
          refine W.lcmp (pc := 56) hx hb dX6_cut_56 ?_
          refine lv_if_eq (pc := 57) (tgt := 64) hx hb dX6_cut_57 (by decide) (fun c5 => ?_) (fun c5 => ?_)
          · have hf := q_ip c5 hf
            refine lv_lconst (pc := 64) (v := 0) hx hb dX6_cut_64 (by decide) ?_
            obtain rfl := Option.some.inj hf
            exact x_lret X hI dX6_cut_65
          · have hf := q_in c5 hf
            refine lv_lconst (pc := 60) (v := 1) hx hb dX6_cut_60 (by decide) ?_
            refine lv_goto (pc := 61) (tgt := 65) hx hb dX6_cut_61 (by decide) ?_
            obtain rfl := Option.some.inj hf
            exact x_lret X hI dX6_cut_65
        · have hf := q_in c4 hf
          rcases Decidable.em (k_sort = 3) with c6 | c6
          · refine lv_tableIn (pc := 4) (tgt := 66) hx hb dX6_cut_4 (by rw [c6]; decide) (by rw [c6]; decide) (by rw [c6]; rfl) (by decide) ?_
            refine lv_lload_n (pc := 66) hx hb dX6_cut_66 rfl (lv_at hl 1 rfl) ?_
            obtain rfl := Option.some.inj hf
            exact x_lret X hI dX6_cut_67
          · refine lv_tableOut (pc := 4) (tgt := 66) hx hb dX6_cut_4 (q_out_0_4 c1 c2 c3 c6 c4) (by decide) ?_
            refine lv_lload_n (pc := 66) hx hb dX6_cut_66 rfl (lv_at hl 1 rfl) ?_
            obtain rfl := Option.some.inj hf
            exact x_lret X hI dX6_cut_67

abbrev rm_X9_isFlag : Room := { frames := 0, cells := 0, slots := 0, locals := 0 }
set_option maxHeartbeats 4000000 in
set_option maxRecDepth 100000 in
theorem c_X9_isFlag (l : Launch) (G : GX)  {l0 : Int32} {res : Int32} (hf : f_X9_isFlag l0 = some res) : MX l yX9_isFlag cX9_isFlag 1 (some .boolean) rm_X9_isFlag G [] [.int l0] [] (some (.int res)) 0 0 := by
  refine MX.of (plainFor_of_name (by decide)) (Nat.le_of_ble_eq_true rfl) ?_
  intro p e s m below meth c A X E hI ls hl
  obtain ⟨hx, hb, hml, hown, hts, hr, hlk⟩ := id X
  have hl : lv_has ls 1 [(0, .int l0)] := hl
  unfold f_X9_isFlag at hf
  refine lv_iload_n (pc := 0) hx hb dX9_isFlag_0 rfl (lv_at hl 0 rfl) ?_
  refine lv_if_eq (pc := 1) (tgt := 9) hx hb dX9_isFlag_1 (by decide) (fun c1 => ?_) (fun c1 => ?_)
  · have hf := q_ip c1 hf
    refine lv_iconst (pc := 9) (v := 1) hx hb dX9_isFlag_9 (by decide) ?_
    refine lv_goto (pc := 10) (tgt := 14) hx hb dX9_isFlag_10 (by decide) ?_
    obtain rfl := Option.some.inj hf
    exact x_zret X hI (Or.inr rfl) dX9_isFlag_14
  · have hf := q_in c1 hf
    refine lv_iload_n (pc := 4) hx hb dX9_isFlag_4 rfl (lv_at hl 0 rfl) ?_
    refine lv_iconst (pc := 5) (v := 1) hx hb dX9_isFlag_5 (by decide) ?_
    refine lv_icmp_ne (pc := 6) (tgt := 13) hx hb dX9_isFlag_6 (by decide) (fun c2 => ?_) (fun c2 => ?_)
    · have hf := q_in c2 hf
      refine lv_iconst (pc := 13) (v := 0) hx hb dX9_isFlag_13 (by decide) ?_
      obtain rfl := Option.some.inj hf
      exact x_zret X hI (Or.inl rfl) dX9_isFlag_14
    · have hf := q_ip c2 hf
      refine lv_iconst (pc := 9) (v := 1) hx hb dX9_isFlag_9 (by decide) ?_
      refine lv_goto (pc := 10) (tgt := 14) hx hb dX9_isFlag_10 (by decide) ?_
      obtain rfl := Option.some.inj hf
      exact x_zret X hI (Or.inr rfl) dX9_isFlag_14

