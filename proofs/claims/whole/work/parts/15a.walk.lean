abbrev rm_X2_at : Room := { frames := 0, cells := 0, slots := 0, locals := 0 }
set_option maxHeartbeats 4000000 in
set_option maxRecDepth 100000 in
theorem c_X2_at (l : Launch) (G : GX)  {l0 : Int32} {l1 : Int32} {res : Int32} (hf : f_X2_at l0 l1 = some res) : MX l yX2_at cX2_at 2 (some .int) rm_X2_at G [] [.int l0, .int l1] [] (some (.int res)) 0 0 := by
  refine MX.of (plainFor_of_name (by decide)) (Nat.le_of_ble_eq_true rfl) ?_
  intro p e s m below meth c A X E hI ls hl
  obtain ⟨hx, hb, hml, hown, hts, hr, hlk⟩ := id X
  have hl : lv_has ls 2 [(0, .int l0), (1, .int l1)] := hl
  unfold f_X2_at at hf
  refine lv_iload_n (pc := 0) hx hb dX2_at_0 rfl (lv_at hl 0 rfl) ?_
  refine lv_bipush (pc := 1) (v := 15) hx hb dX2_at_1 (by decide) ?_
  refine lv_iconst (pc := 3) (v := 3) hx hb dX2_at_3 (by decide) ?_
  refine lv_iload_n (pc := 4) hx hb dX2_at_4 rfl (lv_at hl 1 rfl) ?_
  refine lv_imul (pc := 5) hx hb dX2_at_5 ?_
  refine lv_isub (pc := 6) hx hb dX2_at_6 ?_
  refine lv_ishr (pc := 7) hx hb dX2_at_7 ?_
  refine lv_bipush (pc := 8) (v := 7) hx hb dX2_at_8 (by decide) ?_
  refine lv_iand (pc := 10) hx hb dX2_at_10 ?_
  obtain rfl := Option.some.inj hf
  exact x_iret X hI dX2_at_11

abbrev rm_X2_put : Room := { frames := 0, cells := 0, slots := 0, locals := 0 }
set_option maxHeartbeats 4000000 in
set_option maxRecDepth 100000 in
theorem c_X2_put (l : Launch) (G : GX)  {l0 : Int32} {l1 : Int32} {res : Int32} (hf : f_X2_put l0 l1 = some res) : MX l yX2_put cX2_put 2 (some .int) rm_X2_put G [] [.int l0, .int l1] [] (some (.int res)) 0 0 := by
  refine MX.of (plainFor_of_name (by decide)) (Nat.le_of_ble_eq_true rfl) ?_
  intro p e s m below meth c A X E hI ls hl
  obtain ⟨hx, hb, hml, hown, hts, hr, hlk⟩ := id X
  have hl : lv_has ls 2 [(0, .int l0), (1, .int l1)] := hl
  unfold f_X2_put at hf
  refine lv_iload_n (pc := 0) hx hb dX2_put_0 rfl (lv_at hl 0 rfl) ?_
  refine lv_bipush (pc := 1) (v := 15) hx hb dX2_put_1 (by decide) ?_
  refine lv_iconst (pc := 3) (v := 3) hx hb dX2_put_3 (by decide) ?_
  refine lv_iload_n (pc := 4) hx hb dX2_put_4 rfl (lv_at hl 1 rfl) ?_
  refine lv_imul (pc := 5) hx hb dX2_put_5 ?_
  refine lv_isub (pc := 6) hx hb dX2_put_6 ?_
  refine lv_ishl (pc := 7) hx hb dX2_put_7 ?_
  obtain rfl := Option.some.inj hf
  exact x_iret X hI dX2_put_8

abbrev rm_X2_packed : Room := { frames := 1, cells := 0, slots := 0, locals := 21 }
set_option maxHeartbeats 4000000 in
set_option maxRecDepth 100000 in
theorem k_X2_packed_L11 {p : Program} {l : Launch} {e : Env} {s : State} {m : MethodId} {args : Array Value} {below : List Frame} {meth : Method} {c : Code} {A : Nat → Prop} {G : GX}  {l2 : Int32} {l3 : Int32} {K : Int32 → Int32 → Int32 → Option (Int32)} {res : Int32} (X : CX RX2 cX2_packed 8 (some .int) p s m args meth c) (E : EX G A s)
    (hK : ∀ (l4 : Int32) (l5 : Int32) (l6 : Int32) (H : Heap) (locs : List Loc) (ls : Array Slot), IN A G [] s H locs → lv_has ls 8 [(2, .int l2), (3, .int l3), (4, .int l4), (5, .int l5), (6, .int l6)] → K l4 l5 l6 = some res → W p l e rm_X2_packed s m args below meth c H locs 0 0 (MQ below (QX G A [] (some (.int res))) args s 0 0 A) (F0 m 63 ls [])) :
    ∀ {k : Nat} {l4 : Int32} {l5 : Int32} {l6 : Int32} {H : Heap} {locs : List Loc} {ls : Array Slot}, IN A G [] s H locs → lv_has ls 8 [(2, .int l2), (3, .int l3), (4, .int l4), (5, .int l5), (6, .int l6)] → f_X2_packed_L11 l2 l3 K k l4 l5 l6 = some res → W p l e rm_X2_packed s m args below meth c H locs 0 0 (MQ below (QX G A [] (some (.int res))) args s 0 0 A) (F0 m 11 ls []) := by
  obtain ⟨hx, hb, hml, hown, hts, hr, hlk⟩ := id X
  intro k
  induction k with
  | zero => intro l4 l5 l6 H locs ls hI hl hf; exact nomatch (show none = some res from hf)
  | succ k ih =>
    intro l4 l5 l6 H locs ls hI hl hf
    rw [f_X2_packed_L11] at hf
    refine lv_iload (pc := 11) hx hb dX2_packed_11 (lv_at hl 4 rfl) ?_
    refine lv_if_lt (pc := 13) (tgt := 63) hx hb dX2_packed_13 (by decide) (fun c1 => ?_) (fun c1 => ?_)
    · have hf := q_ip c1 hf
      exact hK _ _ _ _ _ _ hI (lv_sub hl [0, 1, 2, 3, 4] rfl) hf
    · have hf := q_in c1 hf
      refine lv_iload (pc := 16) hx hb dX2_packed_16 (lv_at hl 2 rfl) ?_
      refine lv_bipush (pc := 18) (v := 10) hx hb dX2_packed_18 (by decide) ?_
      obtain ⟨t2, e2, hf⟩ := q_ob hf
      refine x_irem (pc := 20) X e2 dX2_packed_20 ?_
      refine lv_iload_n (pc := 21) hx hb dX2_packed_21 rfl (lv_at hl 0 rfl) ?_
      refine lv_isub (pc := 22) hx hb dX2_packed_22 ?_
      refine lv_istore (pc := 23) (lv' := [(7, .int (t2 - l2)), (2, .int l2), (3, .int l3), (4, .int l4), (5, .int l5), (6, .int l6)]) hx hb dX2_packed_23 hl (by decide) rfl (fun ls hl => ?_)
      refine lv_iload (pc := 25) hx hb dX2_packed_25 (lv_at hl 0 rfl) ?_
      refine lv_if_lt (pc := 27) (tgt := 36) hx hb dX2_packed_27 (by decide) (fun c3 => ?_) (fun c3 => ?_)
      · have hf := q_ip c3 hf
        refine lv_iconst (pc := 36) (v := (-1)) hx hb dX2_packed_36 (by decide) ?_
        obtain rfl := Option.some.inj hf
        exact x_iret X hI dX2_packed_37
      · have hf := q_in c3 hf
        refine lv_iload (pc := 30) hx hb dX2_packed_30 (lv_at hl 0 rfl) ?_
        refine lv_iload_n (pc := 32) hx hb dX2_packed_32 rfl (lv_at hl 2 rfl) ?_
        refine lv_icmp_lt (pc := 33) (tgt := 38) hx hb dX2_packed_33 (by decide) (fun c4 => ?_) (fun c4 => ?_)
        · have hf := q_ip c4 hf
          refine lv_iload (pc := 38) hx hb dX2_packed_38 (lv_at hl 4 rfl) ?_
          refine lv_iload (pc := 40) hx hb dX2_packed_40 (lv_at hl 0 rfl) ?_
          refine lv_iload (pc := 42) hx hb dX2_packed_42 (lv_at hl 5 rfl) ?_
          obtain ⟨t5, e5, hf⟩ := q_ob hf
          refine x_cSn (pc := 44) (st1 := [.int t5, .int l5]) X E hI (c_X2_put l G e5) ks_X2_11 hd_X2_put ⟨rfl, rfl⟩ (by decide) rfl hl.1 rfl (Nat.le_of_ble_eq_true rfl) dX2_packed_44 ⟨Nat.le_of_ble_eq_true rfl, Nat.le_of_ble_eq_true rfl⟩ rfl (fun H locs hI => ?_)
          refine lv_ior (pc := 47) hx hb dX2_packed_47 ?_
          refine lv_istore (pc := 48) (lv' := [(5, .int (l5 ||| t5)), (7, .int (t2 - l2)), (2, .int l2), (3, .int l3), (4, .int l4), (6, .int l6)]) hx hb dX2_packed_48 hl (by decide) rfl (fun ls hl => ?_)
          refine lv_iload (pc := 50) hx hb dX2_packed_50 (lv_at hl 4 rfl) ?_
          refine lv_bipush (pc := 52) (v := 10) hx hb dX2_packed_52 (by decide) ?_
          obtain ⟨t6, e6, hf⟩ := q_ob hf
          refine x_idiv (pc := 54) X e6 dX2_packed_54 ?_
          refine lv_istore (pc := 55) (lv' := [(4, .int t6), (5, .int (l5 ||| t5)), (7, .int (t2 - l2)), (2, .int l2), (3, .int l3), (6, .int l6)]) hx hb dX2_packed_55 hl (by decide) rfl (fun ls hl => ?_)
          refine lv_iinc (pc := 57) (v := l6 + (-1)) (lv' := [(6, .int (l6 + (-1))), (4, .int t6), (5, .int (l5 ||| t5)), (7, .int (t2 - l2)), (2, .int l2), (3, .int l3)]) hx hb dX2_packed_57 hl (k := 5) rfl rfl (by decide) rfl (fun ls hl => ?_)
          refine lv_goto (pc := 60) (tgt := 11) hx hb dX2_packed_60 (by decide) ?_
          exact ih hI (lv_sub hl [4, 5, 1, 2, 0] rfl) hf
        · have hf := q_in c4 hf
          refine lv_iconst (pc := 36) (v := (-1)) hx hb dX2_packed_36 (by decide) ?_
          obtain rfl := Option.some.inj hf
          exact x_iret X hI dX2_packed_37

set_option maxHeartbeats 4000000 in
set_option maxRecDepth 100000 in
theorem c_X2_packed (l : Launch) (G : GX)  {l0 : Int32} {l1 : Int32} {l2 : Int32} {l3 : Int32} {res : Int32} (hf : f_X2_packed l0 l1 l2 l3 = some res) : MX l yX2_packed cX2_packed 8 (some .int) rm_X2_packed G [] [.int l0, .int l1, .int l2, .int l3] [] (some (.int res)) 0 0 := by
  refine MX.of (plainFor_of_name (by decide)) (Nat.le_of_ble_eq_true rfl) ?_
  intro p e s m below meth c A X E hI ls hl
  obtain ⟨hx, hb, hml, hown, hts, hr, hlk⟩ := id X
  have hl : lv_has ls 8 [(0, .int l0), (1, .int l1), (2, .int l2), (3, .int l3)] := hl
  unfold f_X2_packed at hf
  refine lv_iload_n (pc := 0) hx hb dX2_packed_0 rfl (lv_at hl 0 rfl) ?_
  refine lv_istore (pc := 1) (lv' := [(4, .int l0), (0, .int l0), (1, .int l1), (2, .int l2), (3, .int l3)]) hx hb dX2_packed_1 hl (by decide) rfl (fun ls hl => ?_)
  refine lv_iconst (pc := 3) (v := 0) hx hb dX2_packed_3 (by decide) ?_
  refine lv_istore (pc := 4) (lv' := [(5, .int 0), (4, .int l0), (0, .int l0), (1, .int l1), (2, .int l2), (3, .int l3)]) hx hb dX2_packed_4 hl (by decide) rfl (fun ls hl => ?_)
  refine lv_iload_n (pc := 6) hx hb dX2_packed_6 rfl (lv_at hl 3 rfl) ?_
  refine lv_iconst (pc := 7) (v := 1) hx hb dX2_packed_7 (by decide) ?_
  refine lv_isub (pc := 8) hx hb dX2_packed_8 ?_
  refine lv_istore (pc := 9) (lv' := [(6, .int (l1 - 1)), (5, .int 0), (4, .int l0), (0, .int l0), (1, .int l1), (2, .int l2), (3, .int l3)]) hx hb dX2_packed_9 hl (by decide) rfl (fun ls hl => ?_)
  refine k_X2_packed_L11 X E (fun l4_1 l5_1 l6_1 H locs ls hI hl hf => ?_) hI (lv_sub hl [5, 6, 2, 1, 0] rfl) hf
  refine lv_iload (pc := 63) hx hb dX2_packed_63 (lv_at hl 2 rfl) ?_
  refine lv_if_ne (pc := 65) (tgt := 73) hx hb dX2_packed_65 (by decide) (fun c2 => ?_) (fun c2 => ?_)
  · have hf := q_in c2 hf
    refine lv_iconst (pc := 73) (v := (-1)) hx hb dX2_packed_73 (by decide) ?_
    obtain rfl := Option.some.inj hf
    exact x_iret X hI dX2_packed_74
  · have hf := q_ip c2 hf
    refine lv_iload (pc := 68) hx hb dX2_packed_68 (lv_at hl 3 rfl) ?_
    refine lv_goto (pc := 70) (tgt := 74) hx hb dX2_packed_70 (by decide) ?_
    obtain rfl := Option.some.inj hf
    exact x_iret X hI dX2_packed_74

abbrev rm_X2_packedRow : Room := { frames := 2, cells := 0, slots := 0, locals := 48 }
set_option maxHeartbeats 4000000 in
set_option maxRecDepth 100000 in
theorem k_X2_packedRow_L13 {p : Program} {l : Launch} {e : Env} {s : State} {m : MethodId} {args : Array Value} {below : List Frame} {meth : Method} {c : Code} {A : Nat → Prop} {G : GX}  {l1 : Int32} {l2 : Int32} {K : Int32 → Int32 → Option (Int32)} {res : Int32} (X : CX RX2 cX2_packedRow 5 (some .int) p s m args meth c) (E : EX G A s)
    (hK : ∀ (l3 : Int32) (l4 : Int32) (H : Heap) (locs : List Loc) (ls : Array Slot), IN A G [] s H locs → lv_has ls 5 [(1, .int l1), (2, .int l2), (3, .int l3), (4, .int l4)] → K l3 l4 = some res → W p l e rm_X2_packedRow s m args below meth c H locs 0 0 (MQ below (QX G A [] (some (.int res))) args s 0 0 A) (F0 m 40 ls [])) :
    ∀ {k : Nat} {l3 : Int32} {l4 : Int32} {H : Heap} {locs : List Loc} {ls : Array Slot}, IN A G [] s H locs → lv_has ls 5 [(1, .int l1), (2, .int l2), (3, .int l3), (4, .int l4)] → f_X2_packedRow_L13 l1 l2 K k l3 l4 = some res → W p l e rm_X2_packedRow s m args below meth c H locs 0 0 (MQ below (QX G A [] (some (.int res))) args s 0 0 A) (F0 m 13 ls []) := by
  obtain ⟨hx, hb, hml, hown, hts, hr, hlk⟩ := id X
  intro k
  induction k with
  | zero => intro l3 l4 H locs ls hI hl hf; exact nomatch (show none = some res from hf)
  | succ k ih =>
    intro l3 l4 H locs ls hI hl hf
    rw [f_X2_packedRow_L13] at hf
    refine lv_iload_n (pc := 13) hx hb dX2_packedRow_13 rfl (lv_at hl 1 rfl) ?_
    refine lv_if_lt (pc := 14) (tgt := 40) hx hb dX2_packedRow_14 (by decide) (fun c1 => ?_) (fun c1 => ?_)
    · have hf := q_ip c1 hf
      exact hK _ _ _ _ _ hI (lv_sub hl [0, 1, 2, 3] rfl) hf
    · have hf := q_in c1 hf
      refine lv_iload (pc := 17) hx hb dX2_packedRow_17 (lv_at hl 3 rfl) ?_
      refine lv_iload_n (pc := 19) hx hb dX2_packedRow_19 rfl (lv_at hl 0 rfl) ?_
      refine lv_icmp_ge (pc := 20) (tgt := 40) hx hb dX2_packedRow_20 (by decide) (fun c2 => ?_) (fun c2 => ?_)
      · have hf := q_ip c2 hf
        exact hK _ _ _ _ _ hI (lv_sub hl [0, 1, 2, 3] rfl) hf
      · have hf := q_in c2 hf
        refine lv_iload_n (pc := 23) hx hb dX2_packedRow_23 rfl (lv_at hl 2 rfl) ?_
        refine lv_iconst (pc := 24) (v := 1) hx hb dX2_packedRow_24 (by decide) ?_
        refine lv_iload_n (pc := 25) hx hb dX2_packedRow_25 rfl (lv_at hl 1 rfl) ?_
        refine lv_iload (pc := 26) hx hb dX2_packedRow_26 (lv_at hl 3 rfl) ?_
        obtain ⟨t3, e3, hf⟩ := q_ob hf
        refine x_cSn (pc := 28) (st1 := [.int t3, .int 1, .int l3]) X E hI (c_X2_at l G e3) ks_X2_19 hd_X2_at ⟨rfl, rfl⟩ (by decide) rfl hl.1 rfl (Nat.le_of_ble_eq_true rfl) dX2_packedRow_28 ⟨Nat.le_of_ble_eq_true rfl, Nat.le_of_ble_eq_true rfl⟩ rfl (fun H locs hI => ?_)
        refine lv_ishl (pc := 31) hx hb dX2_packedRow_31 ?_
        refine lv_ior (pc := 32) hx hb dX2_packedRow_32 ?_
        refine lv_istore_n (pc := 33) (lv' := [(3, .int (l3 ||| (1 <<< (t3 &&& 31)))), (1, .int l1), (2, .int l2), (4, .int l4)]) hx hb dX2_packedRow_33 rfl hl (by decide) rfl (fun ls hl => ?_)
        refine lv_iinc (pc := 34) (v := l4 + 1) (lv' := [(4, .int (l4 + 1)), (3, .int (l3 ||| (1 <<< (t3 &&& 31)))), (1, .int l1), (2, .int l2)]) hx hb dX2_packedRow_34 hl (k := 3) rfl rfl (by decide) rfl (fun ls hl => ?_)
        refine lv_goto (pc := 37) (tgt := 13) hx hb dX2_packedRow_37 (by decide) ?_
        exact ih hI (lv_sub hl [2, 3, 1, 0] rfl) hf

set_option maxHeartbeats 4000000 in
set_option maxRecDepth 100000 in
theorem c_X2_packedRow (l : Launch) (G : GX)  {l0 : Int32} {l1 : Int32} {res : Int32} (hf : f_X2_packedRow l0 l1 = some res) : MX l yX2_packedRow cX2_packedRow 5 (some .int) rm_X2_packedRow G [] [.int l0, .int l1] [] (some (.int res)) 0 0 := by
  refine MX.of (plainFor_of_name (by decide)) (Nat.le_of_ble_eq_true rfl) ?_
  intro p e s m below meth c A X E hI ls hl
  obtain ⟨hx, hb, hml, hown, hts, hr, hlk⟩ := id X
  have hl : lv_has ls 5 [(0, .int l0), (1, .int l1)] := hl
  unfold f_X2_packedRow at hf
  refine lv_iload_n (pc := 0) hx hb dX2_packedRow_0 rfl (lv_at hl 0 rfl) ?_
  refine lv_iload_n (pc := 1) hx hb dX2_packedRow_1 rfl (lv_at hl 1 rfl) ?_
  refine lv_iconst (pc := 2) (v := 1) hx hb dX2_packedRow_2 (by decide) ?_
  refine lv_iload_n (pc := 3) hx hb dX2_packedRow_3 rfl (lv_at hl 1 rfl) ?_
  obtain ⟨t1, e1, hf⟩ := q_ob hf
  refine x_cSn (pc := 4) (st1 := [.int t1]) X E hI (c_X2_packed l G e1) ks_X2_15 hd_X2_packed ⟨rfl, rfl⟩ (by decide) rfl hl.1 rfl (Nat.le_of_ble_eq_true rfl) dX2_packedRow_4 ⟨Nat.le_of_ble_eq_true rfl, Nat.le_of_ble_eq_true rfl⟩ rfl (fun H locs hI => ?_)
  refine lv_istore_n (pc := 7) (lv' := [(2, .int t1), (0, .int l0), (1, .int l1)]) hx hb dX2_packedRow_7 rfl hl (by decide) rfl (fun ls hl => ?_)
  refine lv_iconst (pc := 8) (v := 0) hx hb dX2_packedRow_8 (by decide) ?_
  refine lv_istore_n (pc := 9) (lv' := [(3, .int 0), (2, .int t1), (0, .int l0), (1, .int l1)]) hx hb dX2_packedRow_9 rfl hl (by decide) rfl (fun ls hl => ?_)
  refine lv_iconst (pc := 10) (v := 0) hx hb dX2_packedRow_10 (by decide) ?_
  refine lv_istore (pc := 11) (lv' := [(4, .int 0), (3, .int 0), (2, .int t1), (0, .int l0), (1, .int l1)]) hx hb dX2_packedRow_11 hl (by decide) rfl (fun ls hl => ?_)
  refine k_X2_packedRow_L13 X E (fun l3_2 l4_2 H locs ls hI hl hf => ?_) hI (lv_sub hl [4, 2, 1, 0] rfl) hf
  refine lv_iload_n (pc := 40) hx hb dX2_packedRow_40 rfl (lv_at hl 2 rfl) ?_
  refine lv_iconst (pc := 41) (v := 1) hx hb dX2_packedRow_41 (by decide) ?_
  refine lv_iload_n (pc := 42) hx hb dX2_packedRow_42 rfl (lv_at hl 0 rfl) ?_
  refine lv_ishl (pc := 43) hx hb dX2_packedRow_43 ?_
  refine lv_iconst (pc := 44) (v := 1) hx hb dX2_packedRow_44 (by decide) ?_
  refine lv_isub (pc := 45) hx hb dX2_packedRow_45 ?_
  refine lv_icmp_ne (pc := 46) (tgt := 53) hx hb dX2_packedRow_46 (by decide) (fun c3 => ?_) (fun c3 => ?_)
  · have hf := q_in c3 hf
    refine lv_iconst (pc := 53) (v := (-1)) hx hb dX2_packedRow_53 (by decide) ?_
    obtain rfl := Option.some.inj hf
    exact x_iret X hI dX2_packedRow_54
  · have hf := q_ip c3 hf
    refine lv_iload_n (pc := 49) hx hb dX2_packedRow_49 rfl (lv_at hl 1 rfl) ?_
    refine lv_goto (pc := 50) (tgt := 54) hx hb dX2_packedRow_50 (by decide) ?_
    obtain rfl := Option.some.inj hf
    exact x_iret X hI dX2_packedRow_54

abbrev rm_X2_number : Room := { frames := 1, cells := 0, slots := 0, locals := 21 }
set_option maxHeartbeats 4000000 in
set_option maxRecDepth 100000 in
theorem k_X2_number_L5 {p : Program} {l : Launch} {e : Env} {s : State} {m : MethodId} {args : Array Value} {below : List Frame} {meth : Method} {c : Code} {A : Nat → Prop} {G : GX}  {l0 : Int32} {l1 : Int32} {l2 : Int32} {K : Int32 → Int32 → Option (Int32)} {res : Int32} (X : CX RX2 cX2_number 5 (some .int) p s m args meth c) (E : EX G A s)
    (hK : ∀ (l3 : Int32) (l4 : Int32) (H : Heap) (locs : List Loc) (ls : Array Slot), IN A G [] s H locs → lv_has ls 5 [(0, .int l0), (1, .int l1), (2, .int l2), (3, .int l3), (4, .int l4)] → K l3 l4 = some res → W p l e rm_X2_number s m args below meth c H locs 0 0 (MQ below (QX G A [] (some (.int res))) args s 0 0 A) (F0 m 31 ls [])) :
    ∀ {k : Nat} {l3 : Int32} {l4 : Int32} {H : Heap} {locs : List Loc} {ls : Array Slot}, IN A G [] s H locs → lv_has ls 5 [(0, .int l0), (1, .int l1), (2, .int l2), (3, .int l3), (4, .int l4)] → f_X2_number_L5 l0 l1 l2 K k l3 l4 = some res → W p l e rm_X2_number s m args below meth c H locs 0 0 (MQ below (QX G A [] (some (.int res))) args s 0 0 A) (F0 m 5 ls []) := by
  obtain ⟨hx, hb, hml, hown, hts, hr, hlk⟩ := id X
  intro k
  induction k with
  | zero => intro l3 l4 H locs ls hI hl hf; exact nomatch (show none = some res from hf)
  | succ k ih =>
    intro l3 l4 H locs ls hI hl hf
    rw [f_X2_number_L5] at hf
    refine lv_iload (pc := 5) hx hb dX2_number_5 (lv_at hl 4 rfl) ?_
    refine lv_iload_n (pc := 7) hx hb dX2_number_7 rfl (lv_at hl 1 rfl) ?_
    refine lv_icmp_ge (pc := 8) (tgt := 31) hx hb dX2_number_8 (by decide) (fun c1 => ?_) (fun c1 => ?_)
    · have hf := q_ip c1 hf
      exact hK _ _ _ _ _ hI (lv_sub hl [0, 1, 2, 3, 4] rfl) hf
    · have hf := q_in c1 hf
      refine lv_iload_n (pc := 11) hx hb dX2_number_11 rfl (lv_at hl 3 rfl) ?_
      refine lv_bipush (pc := 12) (v := 10) hx hb dX2_number_12 (by decide) ?_
      refine lv_imul (pc := 14) hx hb dX2_number_14 ?_
      refine lv_iload_n (pc := 15) hx hb dX2_number_15 rfl (lv_at hl 0 rfl) ?_
      refine lv_iload (pc := 16) hx hb dX2_number_16 (lv_at hl 4 rfl) ?_
      obtain ⟨t2, e2, hf⟩ := q_ob hf
      refine x_cSn (pc := 18) (st1 := [.int t2, .int (l3 * 10)]) X E hI (c_X2_at l G e2) ks_X2_19 hd_X2_at ⟨rfl, rfl⟩ (by decide) rfl hl.1 rfl (Nat.le_of_ble_eq_true rfl) dX2_number_18 ⟨Nat.le_of_ble_eq_true rfl, Nat.le_of_ble_eq_true rfl⟩ rfl (fun H locs hI => ?_)
      refine lv_iadd (pc := 21) hx hb dX2_number_21 ?_
      refine lv_iload_n (pc := 22) hx hb dX2_number_22 rfl (lv_at hl 2 rfl) ?_
      refine lv_iadd (pc := 23) hx hb dX2_number_23 ?_
      refine lv_istore_n (pc := 24) (lv' := [(3, .int (((l3 * 10) + t2) + l2)), (0, .int l0), (1, .int l1), (2, .int l2), (4, .int l4)]) hx hb dX2_number_24 rfl hl (by decide) rfl (fun ls hl => ?_)
      refine lv_iinc (pc := 25) (v := l4 + 1) (lv' := [(4, .int (l4 + 1)), (3, .int (((l3 * 10) + t2) + l2)), (0, .int l0), (1, .int l1), (2, .int l2)]) hx hb dX2_number_25 hl (k := 4) rfl rfl (by decide) rfl (fun ls hl => ?_)
      refine lv_goto (pc := 28) (tgt := 5) hx hb dX2_number_28 (by decide) ?_
      exact ih hI (lv_sub hl [2, 3, 4, 1, 0] rfl) hf

set_option maxHeartbeats 4000000 in
set_option maxRecDepth 100000 in
theorem c_X2_number (l : Launch) (G : GX)  {l0 : Int32} {l1 : Int32} {l2 : Int32} {res : Int32} (hf : f_X2_number l0 l1 l2 = some res) : MX l yX2_number cX2_number 5 (some .int) rm_X2_number G [] [.int l0, .int l1, .int l2] [] (some (.int res)) 0 0 := by
  refine MX.of (plainFor_of_name (by decide)) (Nat.le_of_ble_eq_true rfl) ?_
  intro p e s m below meth c A X E hI ls hl
  obtain ⟨hx, hb, hml, hown, hts, hr, hlk⟩ := id X
  have hl : lv_has ls 5 [(0, .int l0), (1, .int l1), (2, .int l2)] := hl
  unfold f_X2_number at hf
  refine lv_iconst (pc := 0) (v := 0) hx hb dX2_number_0 (by decide) ?_
  refine lv_istore_n (pc := 1) (lv' := [(3, .int 0), (0, .int l0), (1, .int l1), (2, .int l2)]) hx hb dX2_number_1 rfl hl (by decide) rfl (fun ls hl => ?_)
  refine lv_iconst (pc := 2) (v := 0) hx hb dX2_number_2 (by decide) ?_
  refine lv_istore (pc := 3) (lv' := [(4, .int 0), (3, .int 0), (0, .int l0), (1, .int l1), (2, .int l2)]) hx hb dX2_number_3 hl (by decide) rfl (fun ls hl => ?_)
  refine k_X2_number_L5 X E (fun l3_1 l4_1 H locs ls hI hl hf => ?_) hI (lv_sub hl [2, 3, 4, 1, 0] rfl) hf
  refine lv_iload_n (pc := 31) hx hb dX2_number_31 rfl (lv_at hl 3 rfl) ?_
  obtain rfl := Option.some.inj hf
  exact x_iret X hI dX2_number_32

abbrev rm_X2_unmoved : Room := { frames := 1, cells := 0, slots := 0, locals := 21 }
set_option maxHeartbeats 4000000 in
set_option maxRecDepth 100000 in
theorem k_X2_unmoved_L4 {p : Program} {l : Launch} {e : Env} {s : State} {m : MethodId} {args : Array Value} {below : List Frame} {meth : Method} {c : Code} {A : Nat → Prop} {G : GX}  {l0 : Int32} {K : Int32 → Int32 → Option (Int32)} {res : Int32} (X : CX RX2 cX2_unmoved 3 (some .int) p s m args meth c) (E : EX G A s)
    (hK : ∀ (l1 : Int32) (l2 : Int32) (H : Heap) (locs : List Loc) (ls : Array Slot), IN A G [] s H locs → lv_has ls 3 [(0, .int l0), (1, .int l1), (2, .int l2)] → K l1 l2 = some res → W p l e rm_X2_unmoved s m args below meth c H locs 0 0 (MQ below (QX G A [] (some (.int res))) args s 0 0 A) (F0 m 23 ls [])) :
    ∀ {k : Nat} {l1 : Int32} {l2 : Int32} {H : Heap} {locs : List Loc} {ls : Array Slot}, IN A G [] s H locs → lv_has ls 3 [(0, .int l0), (1, .int l1), (2, .int l2)] → f_X2_unmoved_L4 l0 K k l1 l2 = some res → W p l e rm_X2_unmoved s m args below meth c H locs 0 0 (MQ below (QX G A [] (some (.int res))) args s 0 0 A) (F0 m 4 ls []) := by
  obtain ⟨hx, hb, hml, hown, hts, hr, hlk⟩ := id X
  intro k
  induction k with
  | zero => intro l1 l2 H locs ls hI hl hf; exact nomatch (show none = some res from hf)
  | succ k ih =>
    intro l1 l2 H locs ls hI hl hf
    rw [f_X2_unmoved_L4] at hf
    refine lv_iload_n (pc := 4) hx hb dX2_unmoved_4 rfl (lv_at hl 2 rfl) ?_
    refine lv_iload_n (pc := 5) hx hb dX2_unmoved_5 rfl (lv_at hl 0 rfl) ?_
    refine lv_icmp_ge (pc := 6) (tgt := 23) hx hb dX2_unmoved_6 (by decide) (fun c1 => ?_) (fun c1 => ?_)
    · have hf := q_ip c1 hf
      exact hK _ _ _ _ _ hI (lv_sub hl [0, 1, 2] rfl) hf
    · have hf := q_in c1 hf
      refine lv_iload_n (pc := 9) hx hb dX2_unmoved_9 rfl (lv_at hl 1 rfl) ?_
      refine lv_iload_n (pc := 10) hx hb dX2_unmoved_10 rfl (lv_at hl 2 rfl) ?_
      refine lv_iload_n (pc := 11) hx hb dX2_unmoved_11 rfl (lv_at hl 2 rfl) ?_
      obtain ⟨t2, e2, hf⟩ := q_ob hf
      refine x_cSn (pc := 12) (st1 := [.int t2, .int l1]) X E hI (c_X2_put l G e2) ks_X2_11 hd_X2_put ⟨rfl, rfl⟩ (by decide) rfl hl.1 rfl (Nat.le_of_ble_eq_true rfl) dX2_unmoved_12 ⟨Nat.le_of_ble_eq_true rfl, Nat.le_of_ble_eq_true rfl⟩ rfl (fun H locs hI => ?_)
      refine lv_ior (pc := 15) hx hb dX2_unmoved_15 ?_
      refine lv_istore_n (pc := 16) (lv' := [(1, .int (l1 ||| t2)), (0, .int l0), (2, .int l2)]) hx hb dX2_unmoved_16 rfl hl (by decide) rfl (fun ls hl => ?_)
      refine lv_iinc (pc := 17) (v := l2 + 1) (lv' := [(2, .int (l2 + 1)), (1, .int (l1 ||| t2)), (0, .int l0)]) hx hb dX2_unmoved_17 hl (k := 2) rfl rfl (by decide) rfl (fun ls hl => ?_)
      refine lv_goto (pc := 20) (tgt := 4) hx hb dX2_unmoved_20 (by decide) ?_
      exact ih hI (lv_sub hl [2, 1, 0] rfl) hf

set_option maxHeartbeats 4000000 in
set_option maxRecDepth 100000 in
theorem c_X2_unmoved (l : Launch) (G : GX)  {l0 : Int32} {res : Int32} (hf : f_X2_unmoved l0 = some res) : MX l yX2_unmoved cX2_unmoved 3 (some .int) rm_X2_unmoved G [] [.int l0] [] (some (.int res)) 0 0 := by
  refine MX.of (plainFor_of_name (by decide)) (Nat.le_of_ble_eq_true rfl) ?_
  intro p e s m below meth c A X E hI ls hl
  obtain ⟨hx, hb, hml, hown, hts, hr, hlk⟩ := id X
  have hl : lv_has ls 3 [(0, .int l0)] := hl
  unfold f_X2_unmoved at hf
  refine lv_iconst (pc := 0) (v := 0) hx hb dX2_unmoved_0 (by decide) ?_
  refine lv_istore_n (pc := 1) (lv' := [(1, .int 0), (0, .int l0)]) hx hb dX2_unmoved_1 rfl hl (by decide) rfl (fun ls hl => ?_)
  refine lv_iconst (pc := 2) (v := 0) hx hb dX2_unmoved_2 (by decide) ?_
  refine lv_istore_n (pc := 3) (lv' := [(2, .int 0), (1, .int 0), (0, .int l0)]) hx hb dX2_unmoved_3 rfl hl (by decide) rfl (fun ls hl => ?_)
  refine k_X2_unmoved_L4 X E (fun l1_1 l2_1 H locs ls hI hl hf => ?_) hI (lv_sub hl [2, 1, 0] rfl) hf
  refine lv_iload_n (pc := 23) hx hb dX2_unmoved_23 rfl (lv_at hl 1 rfl) ?_
  obtain rfl := Option.some.inj hf
  exact x_iret X hI dX2_unmoved_24

abbrev rm_X2_moved : Room := { frames := 1, cells := 0, slots := 0, locals := 21 }
set_option maxHeartbeats 4000000 in
set_option maxRecDepth 100000 in
theorem k_X2_moved_L5 {p : Program} {l : Launch} {e : Env} {s : State} {m : MethodId} {args : Array Value} {below : List Frame} {meth : Method} {c : Code} {A : Nat → Prop} {G : GX}  {l0 : Int32} {l1 : Int32} {l2 : Int32} {K : Int32 → Int32 → Option (Int32)} {res : Int32} (X : CX RX2 cX2_moved 5 (some .int) p s m args meth c) (E : EX G A s)
    (hK : ∀ (l3 : Int32) (l4 : Int32) (H : Heap) (locs : List Loc) (ls : Array Slot), IN A G [] s H locs → lv_has ls 5 [(0, .int l0), (1, .int l1), (2, .int l2), (3, .int l3), (4, .int l4)] → K l3 l4 = some res → W p l e rm_X2_moved s m args below meth c H locs 0 0 (MQ below (QX G A [] (some (.int res))) args s 0 0 A) (F0 m 35 ls [])) :
    ∀ {k : Nat} {l3 : Int32} {l4 : Int32} {H : Heap} {locs : List Loc} {ls : Array Slot}, IN A G [] s H locs → lv_has ls 5 [(0, .int l0), (1, .int l1), (2, .int l2), (3, .int l3), (4, .int l4)] → f_X2_moved_L5 l0 l1 l2 K k l3 l4 = some res → W p l e rm_X2_moved s m args below meth c H locs 0 0 (MQ below (QX G A [] (some (.int res))) args s 0 0 A) (F0 m 5 ls []) := by
  obtain ⟨hx, hb, hml, hown, hts, hr, hlk⟩ := id X
  intro k
  induction k with
  | zero => intro l3 l4 H locs ls hI hl hf; exact nomatch (show none = some res from hf)
  | succ k ih =>
    intro l3 l4 H locs ls hI hl hf
    rw [f_X2_moved_L5] at hf
    refine lv_iload (pc := 5) hx hb dX2_moved_5 (lv_at hl 4 rfl) ?_
    refine lv_iload_n (pc := 7) hx hb dX2_moved_7 rfl (lv_at hl 2 rfl) ?_
    refine lv_icmp_ge (pc := 8) (tgt := 35) hx hb dX2_moved_8 (by decide) (fun c1 => ?_) (fun c1 => ?_)
    · have hf := q_ip c1 hf
      exact hK _ _ _ _ _ hI (lv_sub hl [0, 1, 2, 3, 4] rfl) hf
    · have hf := q_in c1 hf
      refine lv_iload_n (pc := 11) hx hb dX2_moved_11 rfl (lv_at hl 3 rfl) ?_
      refine lv_iload_n (pc := 12) hx hb dX2_moved_12 rfl (lv_at hl 0 rfl) ?_
      refine lv_iload_n (pc := 13) hx hb dX2_moved_13 rfl (lv_at hl 1 rfl) ?_
      refine lv_iload (pc := 14) hx hb dX2_moved_14 (lv_at hl 4 rfl) ?_
      obtain ⟨t2, e2, hf⟩ := q_ob hf
      refine x_cSn (pc := 16) (st1 := [.int t2, .int l0, .int l3]) X E hI (c_X2_at l G e2) ks_X2_19 hd_X2_at ⟨rfl, rfl⟩ (by decide) rfl hl.1 rfl (Nat.le_of_ble_eq_true rfl) dX2_moved_16 ⟨Nat.le_of_ble_eq_true rfl, Nat.le_of_ble_eq_true rfl⟩ rfl (fun H locs hI => ?_)
      obtain ⟨t3, e3, hf⟩ := q_ob hf
      refine x_cSn (pc := 19) (st1 := [.int t3, .int l3]) X E hI (c_X2_at l G e3) ks_X2_19 hd_X2_at ⟨rfl, rfl⟩ (by decide) rfl hl.1 rfl (Nat.le_of_ble_eq_true rfl) dX2_moved_19 ⟨Nat.le_of_ble_eq_true rfl, Nat.le_of_ble_eq_true rfl⟩ rfl (fun H locs hI => ?_)
      refine lv_iload (pc := 22) hx hb dX2_moved_22 (lv_at hl 4 rfl) ?_
      obtain ⟨t4, e4, hf⟩ := q_ob hf
      refine x_cSn (pc := 24) (st1 := [.int t4, .int l3]) X E hI (c_X2_put l G e4) ks_X2_11 hd_X2_put ⟨rfl, rfl⟩ (by decide) rfl hl.1 rfl (Nat.le_of_ble_eq_true rfl) dX2_moved_24 ⟨Nat.le_of_ble_eq_true rfl, Nat.le_of_ble_eq_true rfl⟩ rfl (fun H locs hI => ?_)
      refine lv_ior (pc := 27) hx hb dX2_moved_27 ?_
      refine lv_istore_n (pc := 28) (lv' := [(3, .int (l3 ||| t4)), (0, .int l0), (1, .int l1), (2, .int l2), (4, .int l4)]) hx hb dX2_moved_28 rfl hl (by decide) rfl (fun ls hl => ?_)
      refine lv_iinc (pc := 29) (v := l4 + 1) (lv' := [(4, .int (l4 + 1)), (3, .int (l3 ||| t4)), (0, .int l0), (1, .int l1), (2, .int l2)]) hx hb dX2_moved_29 hl (k := 4) rfl rfl (by decide) rfl (fun ls hl => ?_)
      refine lv_goto (pc := 32) (tgt := 5) hx hb dX2_moved_32 (by decide) ?_
      exact ih hI (lv_sub hl [2, 3, 4, 1, 0] rfl) hf

set_option maxHeartbeats 4000000 in
set_option maxRecDepth 100000 in
theorem c_X2_moved (l : Launch) (G : GX)  {l0 : Int32} {l1 : Int32} {l2 : Int32} {res : Int32} (hf : f_X2_moved l0 l1 l2 = some res) : MX l yX2_moved cX2_moved 5 (some .int) rm_X2_moved G [] [.int l0, .int l1, .int l2] [] (some (.int res)) 0 0 := by
  refine MX.of (plainFor_of_name (by decide)) (Nat.le_of_ble_eq_true rfl) ?_
  intro p e s m below meth c A X E hI ls hl
  obtain ⟨hx, hb, hml, hown, hts, hr, hlk⟩ := id X
  have hl : lv_has ls 5 [(0, .int l0), (1, .int l1), (2, .int l2)] := hl
  unfold f_X2_moved at hf
  refine lv_iconst (pc := 0) (v := 0) hx hb dX2_moved_0 (by decide) ?_
  refine lv_istore_n (pc := 1) (lv' := [(3, .int 0), (0, .int l0), (1, .int l1), (2, .int l2)]) hx hb dX2_moved_1 rfl hl (by decide) rfl (fun ls hl => ?_)
  refine lv_iconst (pc := 2) (v := 0) hx hb dX2_moved_2 (by decide) ?_
  refine lv_istore (pc := 3) (lv' := [(4, .int 0), (3, .int 0), (0, .int l0), (1, .int l1), (2, .int l2)]) hx hb dX2_moved_3 hl (by decide) rfl (fun ls hl => ?_)
  refine k_X2_moved_L5 X E (fun l3_1 l4_1 H locs ls hI hl hf => ?_) hI (lv_sub hl [2, 3, 4, 1, 0] rfl) hf
  refine lv_iload_n (pc := 35) hx hb dX2_moved_35 rfl (lv_at hl 3 rfl) ?_
  obtain rfl := Option.some.inj hf
  exact x_iret X hI dX2_moved_36

abbrev rm_X2_becomesLess : Room := { frames := 0, cells := 0, slots := 0, locals := 0 }
set_option maxHeartbeats 4000000 in
set_option maxRecDepth 100000 in
theorem k_X2_becomesLess_L13 {p : Program} {l : Launch} {e : Env} {s : State} {m : MethodId} {args : Array Value} {below : List Frame} {meth : Method} {c : Code} {A : Nat → Prop} {G : GX}  {l0 : Int32} {l1 : Int32} {l3 : Int32} {K : Int32 → Option (Int32)} {res : Int32} (X : CX RX2 cX2_becomesLess 6 (some .boolean) p s m args meth c) (E : EX G A s)
    (hK : ∀ (l4 : Int32) (H : Heap) (locs : List Loc) (ls : Array Slot), IN A G [] s H locs → lv_has ls 6 [(0, .int l0), (1, .int l1), (3, .int l3), (4, .int l4)] → K l4 = some res → W p l e rm_X2_becomesLess s m args below meth c H locs 0 0 (MQ below (QX G A [] (some (.int res))) args s 0 0 A) (F0 m 68 ls [])) :
    ∀ {k : Nat} {l4 : Int32} {H : Heap} {locs : List Loc} {ls : Array Slot}, IN A G [] s H locs → lv_has ls 6 [(0, .int l0), (1, .int l1), (3, .int l3), (4, .int l4)] → f_X2_becomesLess_L13 l0 l1 l3 K k l4 = some res → W p l e rm_X2_becomesLess s m args below meth c H locs 0 0 (MQ below (QX G A [] (some (.int res))) args s 0 0 A) (F0 m 13 ls []) := by
  obtain ⟨hx, hb, hml, hown, hts, hr, hlk⟩ := id X
  intro k
  induction k with
  | zero => intro l4 H locs ls hI hl hf; exact nomatch (show none = some res from hf)
  | succ k ih =>
    intro l4 H locs ls hI hl hf
    rw [f_X2_becomesLess_L13] at hf
    refine lv_iload (pc := 13) hx hb dX2_becomesLess_13 (lv_at hl 3 rfl) ?_
    refine lv_iload_n (pc := 15) hx hb dX2_becomesLess_15 rfl (lv_at hl 2 rfl) ?_
    refine lv_icmp_lt (pc := 16) (tgt := 68) hx hb dX2_becomesLess_16 (by decide) (fun c1 => ?_) (fun c1 => ?_)
    · have hf := q_ip c1 hf
      exact hK _ _ _ _ hI (lv_sub hl [0, 1, 2, 3] rfl) hf
    · have hf := q_in c1 hf
      refine lv_iload_n (pc := 19) hx hb dX2_becomesLess_19 rfl (lv_at hl 0 rfl) ?_
      refine lv_bipush (pc := 20) (v := 15) hx hb dX2_becomesLess_20 (by decide) ?_
      refine lv_iconst (pc := 22) (v := 3) hx hb dX2_becomesLess_22 (by decide) ?_
      refine lv_iload_n (pc := 23) hx hb dX2_becomesLess_23 rfl (lv_at hl 1 rfl) ?_
      refine lv_iload (pc := 24) hx hb dX2_becomesLess_24 (lv_at hl 3 rfl) ?_
      refine lv_ishr (pc := 26) hx hb dX2_becomesLess_26 ?_
      refine lv_bipush (pc := 27) (v := 7) hx hb dX2_becomesLess_27 (by decide) ?_
      refine lv_iand (pc := 29) hx hb dX2_becomesLess_29 ?_
      refine lv_imul (pc := 30) hx hb dX2_becomesLess_30 ?_
      refine lv_isub (pc := 31) hx hb dX2_becomesLess_31 ?_
      refine lv_ishr (pc := 32) hx hb dX2_becomesLess_32 ?_
      refine lv_bipush (pc := 33) (v := 7) hx hb dX2_becomesLess_33 (by decide) ?_
      refine lv_iand (pc := 35) hx hb dX2_becomesLess_35 ?_
      refine lv_iload_n (pc := 36) hx hb dX2_becomesLess_36 rfl (lv_at hl 0 rfl) ?_
      refine lv_iload (pc := 37) hx hb dX2_becomesLess_37 (lv_at hl 3 rfl) ?_
      refine lv_ishr (pc := 39) hx hb dX2_becomesLess_39 ?_
      refine lv_bipush (pc := 40) (v := 7) hx hb dX2_becomesLess_40 (by decide) ?_
      refine lv_iand (pc := 42) hx hb dX2_becomesLess_42 ?_
      refine lv_isub (pc := 43) hx hb dX2_becomesLess_43 ?_
      refine lv_istore (pc := 44) (lv' := [(5, .int (((l0 >>> ((15 - (3 * ((l1 >>> (l4 &&& 31)) &&& 7))) &&& 31)) &&& 7) - ((l0 >>> (l4 &&& 31)) &&& 7))), (0, .int l0), (1, .int l1), (3, .int l3), (4, .int l4)]) hx hb dX2_becomesLess_44 hl (by decide) rfl (fun ls hl => ?_)
      refine lv_iload (pc := 46) hx hb dX2_becomesLess_46 (lv_at hl 0 rfl) ?_
      refine lv_if_eq (pc := 48) (tgt := 62) hx hb dX2_becomesLess_48 (by decide) (fun c2 => ?_) (fun c2 => ?_)
      · have hf := q_ip c2 hf
        refine lv_iinc (pc := 62) (v := l4 + (-3)) (lv' := [(4, .int (l4 + (-3))), (5, .int (((l0 >>> ((15 - (3 * ((l1 >>> (l4 &&& 31)) &&& 7))) &&& 31)) &&& 7) - ((l0 >>> (l4 &&& 31)) &&& 7))), (0, .int l0), (1, .int l1), (3, .int l3)]) hx hb dX2_becomesLess_62 hl (k := 4) rfl rfl (by decide) rfl (fun ls hl => ?_)
        refine lv_goto (pc := 65) (tgt := 13) hx hb dX2_becomesLess_65 (by decide) ?_
        exact ih hI (lv_sub hl [2, 3, 4, 0] rfl) hf
      · have hf := q_in c2 hf
        refine lv_iload (pc := 51) hx hb dX2_becomesLess_51 (lv_at hl 0 rfl) ?_
        refine lv_if_ge (pc := 53) (tgt := 60) hx hb dX2_becomesLess_53 (by decide) (fun c3 => ?_) (fun c3 => ?_)
        · have hf := q_ip c3 hf
          refine lv_iconst (pc := 60) (v := 0) hx hb dX2_becomesLess_60 (by decide) ?_
          obtain rfl := Option.some.inj hf
          exact x_zret X hI (Or.inl rfl) dX2_becomesLess_61
        · have hf := q_in c3 hf
          refine lv_iconst (pc := 56) (v := 1) hx hb dX2_becomesLess_56 (by decide) ?_
          refine lv_goto (pc := 57) (tgt := 61) hx hb dX2_becomesLess_57 (by decide) ?_
          obtain rfl := Option.some.inj hf
          exact x_zret X hI (Or.inr rfl) dX2_becomesLess_61

set_option maxHeartbeats 4000000 in
set_option maxRecDepth 100000 in
theorem c_X2_becomesLess (l : Launch) (G : GX)  {l0 : Int32} {l1 : Int32} {l2 : Int32} {res : Int32} (hf : f_X2_becomesLess l0 l1 l2 = some res) : MX l yX2_becomesLess cX2_becomesLess 6 (some .boolean) rm_X2_becomesLess G [] [.int l0, .int l1, .int l2] [] (some (.int res)) 0 0 := by
  refine MX.of (plainFor_of_name (by decide)) (Nat.le_of_ble_eq_true rfl) ?_
  intro p e s m below meth c A X E hI ls hl
  obtain ⟨hx, hb, hml, hown, hts, hr, hlk⟩ := id X
  have hl : lv_has ls 6 [(0, .int l0), (1, .int l1), (2, .int l2)] := hl
  unfold f_X2_becomesLess at hf
  refine lv_bipush (pc := 0) (v := 15) hx hb dX2_becomesLess_0 (by decide) ?_
  refine lv_iconst (pc := 2) (v := 3) hx hb dX2_becomesLess_2 (by decide) ?_
  refine lv_iload_n (pc := 3) hx hb dX2_becomesLess_3 rfl (lv_at hl 2 rfl) ?_
  refine lv_iconst (pc := 4) (v := 1) hx hb dX2_becomesLess_4 (by decide) ?_
  refine lv_isub (pc := 5) hx hb dX2_becomesLess_5 ?_
  refine lv_imul (pc := 6) hx hb dX2_becomesLess_6 ?_
  refine lv_isub (pc := 7) hx hb dX2_becomesLess_7 ?_
  refine lv_istore_n (pc := 8) (lv' := [(3, .int (15 - (3 * (l2 - 1)))), (0, .int l0), (1, .int l1), (2, .int l2)]) hx hb dX2_becomesLess_8 rfl hl (by decide) rfl (fun ls hl => ?_)
  refine lv_bipush (pc := 9) (v := 15) hx hb dX2_becomesLess_9 (by decide) ?_
  refine lv_istore (pc := 11) (lv' := [(4, .int 15), (3, .int (15 - (3 * (l2 - 1)))), (0, .int l0), (1, .int l1), (2, .int l2)]) hx hb dX2_becomesLess_11 hl (by decide) rfl (fun ls hl => ?_)
  refine k_X2_becomesLess_L13 X E (fun l4_1 H locs ls hI hl hf => ?_) hI (lv_sub hl [2, 3, 1, 0] rfl) hf
  refine lv_iconst (pc := 68) (v := 0) hx hb dX2_becomesLess_68 (by decide) ?_
  obtain rfl := Option.some.inj hf
  exact x_zret X hI (Or.inl rfl) dX2_becomesLess_69

abbrev rm_X2_nextPainting : Room := { frames := 1, cells := 0, slots := 0, locals := 21 }
set_option maxHeartbeats 4000000 in
set_option maxRecDepth 100000 in
theorem k_X2_nextPainting_L7 {p : Program} {l : Launch} {e : Env} {s : State} {m : MethodId} {args : Array Value} {below : List Frame} {meth : Method} {c : Code} {A : Nat → Prop} {G : GX}  {l2 : Int32} {K : Int32 → Int32 → Option (Int32)} {res : Int32} (X : CX RX2 cX2_nextPainting 6 (some .int) p s m args meth c) (E : EX G A s)
    (hK : ∀ (l3 : Int32) (l4 : Int32) (H : Heap) (locs : List Loc) (ls : Array Slot), IN A G [] s H locs → lv_has ls 6 [(2, .int l2), (3, .int l3), (4, .int l4)] → K l3 l4 = some res → W p l e rm_X2_nextPainting s m args below meth c H locs 0 0 (MQ below (QX G A [] (some (.int res))) args s 0 0 A) (F0 m 53 ls [])) :
    ∀ {k : Nat} {l3 : Int32} {l4 : Int32} {H : Heap} {locs : List Loc} {ls : Array Slot}, IN A G [] s H locs → lv_has ls 6 [(2, .int l2), (3, .int l3), (4, .int l4)] → f_X2_nextPainting_L7 l2 K k l3 l4 = some res → W p l e rm_X2_nextPainting s m args below meth c H locs 0 0 (MQ below (QX G A [] (some (.int res))) args s 0 0 A) (F0 m 7 ls []) := by
  obtain ⟨hx, hb, hml, hown, hts, hr, hlk⟩ := id X
  intro k
  induction k with
  | zero => intro l3 l4 H locs ls hI hl hf; exact nomatch (show none = some res from hf)
  | succ k ih =>
    intro l3 l4 H locs ls hI hl hf
    rw [f_X2_nextPainting_L7] at hf
    refine lv_iload (pc := 7) hx hb dX2_nextPainting_7 (lv_at hl 2 rfl) ?_
    refine lv_if_lt (pc := 9) (tgt := 53) hx hb dX2_nextPainting_9 (by decide) (fun c1 => ?_) (fun c1 => ?_)
    · have hf := q_ip c1 hf
      exact hK _ _ _ _ _ hI (lv_sub hl [0, 1, 2] rfl) hf
    · have hf := q_in c1 hf
      refine lv_iload_n (pc := 12) hx hb dX2_nextPainting_12 rfl (lv_at hl 1 rfl) ?_
      refine lv_iload (pc := 13) hx hb dX2_nextPainting_13 (lv_at hl 2 rfl) ?_
      obtain ⟨t2, e2, hf⟩ := q_ob hf
      refine x_cSn (pc := 15) (st1 := [.int t2]) X E hI (c_X2_at l G e2) ks_X2_19 hd_X2_at ⟨rfl, rfl⟩ (by decide) rfl hl.1 rfl (Nat.le_of_ble_eq_true rfl) dX2_nextPainting_15 ⟨Nat.le_of_ble_eq_true rfl, Nat.le_of_ble_eq_true rfl⟩ rfl (fun H locs hI => ?_)
      refine lv_istore (pc := 18) (lv' := [(5, .int t2), (2, .int l2), (3, .int l3), (4, .int l4)]) hx hb dX2_nextPainting_18 hl (by decide) rfl (fun ls hl => ?_)
      refine lv_iload (pc := 20) hx hb dX2_nextPainting_20 (lv_at hl 0 rfl) ?_
      refine lv_iload_n (pc := 22) hx hb dX2_nextPainting_22 rfl (lv_at hl 1 rfl) ?_
      refine lv_iconst (pc := 23) (v := 1) hx hb dX2_nextPainting_23 (by decide) ?_
      refine lv_isub (pc := 24) hx hb dX2_nextPainting_24 ?_
      refine lv_icmp_ge (pc := 25) (tgt := 37) hx hb dX2_nextPainting_25 (by decide) (fun c3 => ?_) (fun c3 => ?_)
      · have hf := q_ip c3 hf
        refine lv_iload_n (pc := 37) hx hb dX2_nextPainting_37 rfl (lv_at hl 2 rfl) ?_
        refine lv_iload (pc := 38) hx hb dX2_nextPainting_38 (lv_at hl 0 rfl) ?_
        refine lv_iload (pc := 40) hx hb dX2_nextPainting_40 (lv_at hl 3 rfl) ?_
        obtain ⟨t4, e4, hf⟩ := q_ob hf
        refine x_cSn (pc := 42) (st1 := [.int t4, .int l3]) X E hI (c_X2_put l G e4) ks_X2_11 hd_X2_put ⟨rfl, rfl⟩ (by decide) rfl hl.1 rfl (Nat.le_of_ble_eq_true rfl) dX2_nextPainting_42 ⟨Nat.le_of_ble_eq_true rfl, Nat.le_of_ble_eq_true rfl⟩ rfl (fun H locs hI => ?_)
        refine lv_isub (pc := 45) hx hb dX2_nextPainting_45 ?_
        refine lv_istore_n (pc := 46) (lv' := [(3, .int (l3 - t4)), (5, .int t2), (2, .int l2), (4, .int l4)]) hx hb dX2_nextPainting_46 rfl hl (by decide) rfl (fun ls hl => ?_)
        refine lv_iinc (pc := 47) (v := l4 + (-1)) (lv' := [(4, .int (l4 + (-1))), (3, .int (l3 - t4)), (5, .int t2), (2, .int l2)]) hx hb dX2_nextPainting_47 hl (k := 3) rfl rfl (by decide) rfl (fun ls hl => ?_)
        refine lv_goto (pc := 50) (tgt := 7) hx hb dX2_nextPainting_50 (by decide) ?_
        exact ih hI (lv_sub hl [3, 1, 0] rfl) hf
      · have hf := q_in c3 hf
        refine lv_iload_n (pc := 28) hx hb dX2_nextPainting_28 rfl (lv_at hl 2 rfl) ?_
        refine lv_iconst (pc := 29) (v := 1) hx hb dX2_nextPainting_29 (by decide) ?_
        refine lv_iload (pc := 30) hx hb dX2_nextPainting_30 (lv_at hl 3 rfl) ?_
        obtain ⟨t5, e5, hf⟩ := q_ob hf
        refine x_cSn (pc := 32) (st1 := [.int t5, .int l3]) X E hI (c_X2_put l G e5) ks_X2_11 hd_X2_put ⟨rfl, rfl⟩ (by decide) rfl hl.1 rfl (Nat.le_of_ble_eq_true rfl) dX2_nextPainting_32 ⟨Nat.le_of_ble_eq_true rfl, Nat.le_of_ble_eq_true rfl⟩ rfl (fun H locs hI => ?_)
        refine lv_iadd (pc := 35) hx hb dX2_nextPainting_35 ?_
        obtain rfl := Option.some.inj hf
        exact x_iret X hI dX2_nextPainting_36

set_option maxHeartbeats 4000000 in
set_option maxRecDepth 100000 in
theorem c_X2_nextPainting (l : Launch) (G : GX)  {l0 : Int32} {l1 : Int32} {l2 : Int32} {res : Int32} (hf : f_X2_nextPainting l0 l1 l2 = some res) : MX l yX2_nextPainting cX2_nextPainting 6 (some .int) rm_X2_nextPainting G [] [.int l0, .int l1, .int l2] [] (some (.int res)) 0 0 := by
  refine MX.of (plainFor_of_name (by decide)) (Nat.le_of_ble_eq_true rfl) ?_
  intro p e s m below meth c A X E hI ls hl
  obtain ⟨hx, hb, hml, hown, hts, hr, hlk⟩ := id X
  have hl : lv_has ls 6 [(0, .int l0), (1, .int l1), (2, .int l2)] := hl
  unfold f_X2_nextPainting at hf
  refine lv_iload_n (pc := 0) hx hb dX2_nextPainting_0 rfl (lv_at hl 0 rfl) ?_
  refine lv_istore_n (pc := 1) (lv' := [(3, .int l0), (0, .int l0), (1, .int l1), (2, .int l2)]) hx hb dX2_nextPainting_1 rfl hl (by decide) rfl (fun ls hl => ?_)
  refine lv_iload_n (pc := 2) hx hb dX2_nextPainting_2 rfl (lv_at hl 2 rfl) ?_
  refine lv_iconst (pc := 3) (v := 1) hx hb dX2_nextPainting_3 (by decide) ?_
  refine lv_isub (pc := 4) hx hb dX2_nextPainting_4 ?_
  refine lv_istore (pc := 5) (lv' := [(4, .int (l1 - 1)), (3, .int l0), (0, .int l0), (1, .int l1), (2, .int l2)]) hx hb dX2_nextPainting_5 hl (by decide) rfl (fun ls hl => ?_)
  refine k_X2_nextPainting_L7 X E (fun l3_1 l4_1 H locs ls hI hl hf => ?_) hI (lv_sub hl [4, 1, 0] rfl) hf
  refine lv_iload_n (pc := 53) hx hb dX2_nextPainting_53 rfl (lv_at hl 1 rfl) ?_
  obtain rfl := Option.some.inj hf
  exact x_iret X hI dX2_nextPainting_54

abbrev rm_X2_isOfKinds : Room := { frames := 1, cells := 0, slots := 0, locals := 21 }
set_option maxHeartbeats 4000000 in
set_option maxRecDepth 100000 in
theorem k_X2_isOfKinds_L2 {p : Program} {l : Launch} {e : Env} {s : State} {m : MethodId} {args : Array Value} {below : List Frame} {meth : Method} {c : Code} {A : Nat → Prop} {G : GX}  {l0 : Int32} {l1 : Int32} {l2 : Int32} {K : Int32 → Option (Int32)} {res : Int32} (X : CX RX2 cX2_isOfKinds 4 (some .boolean) p s m args meth c) (E : EX G A s)
    (hK : ∀ (l3 : Int32) (H : Heap) (locs : List Loc) (ls : Array Slot), IN A G [] s H locs → lv_has ls 4 [(0, .int l0), (1, .int l1), (2, .int l2), (3, .int l3)] → K l3 = some res → W p l e rm_X2_isOfKinds s m args below meth c H locs 0 0 (MQ below (QX G A [] (some (.int res))) args s 0 0 A) (F0 m 24 ls [])) :
    ∀ {k : Nat} {l3 : Int32} {H : Heap} {locs : List Loc} {ls : Array Slot}, IN A G [] s H locs → lv_has ls 4 [(0, .int l0), (1, .int l1), (2, .int l2), (3, .int l3)] → f_X2_isOfKinds_L2 l0 l1 l2 K k l3 = some res → W p l e rm_X2_isOfKinds s m args below meth c H locs 0 0 (MQ below (QX G A [] (some (.int res))) args s 0 0 A) (F0 m 2 ls []) := by
  obtain ⟨hx, hb, hml, hown, hts, hr, hlk⟩ := id X
  intro k
  induction k with
  | zero => intro l3 H locs ls hI hl hf; exact nomatch (show none = some res from hf)
  | succ k ih =>
    intro l3 H locs ls hI hl hf
    rw [f_X2_isOfKinds_L2] at hf
    refine lv_iload_n (pc := 2) hx hb dX2_isOfKinds_2 rfl (lv_at hl 3 rfl) ?_
    refine lv_iload_n (pc := 3) hx hb dX2_isOfKinds_3 rfl (lv_at hl 1 rfl) ?_
    refine lv_icmp_ge (pc := 4) (tgt := 24) hx hb dX2_isOfKinds_4 (by decide) (fun c1 => ?_) (fun c1 => ?_)
    · have hf := q_ip c1 hf
      exact hK _ _ _ _ hI (lv_sub hl [0, 1, 2, 3] rfl) hf
    · have hf := q_in c1 hf
      refine lv_iload_n (pc := 7) hx hb dX2_isOfKinds_7 rfl (lv_at hl 0 rfl) ?_
      refine lv_iload_n (pc := 8) hx hb dX2_isOfKinds_8 rfl (lv_at hl 3 rfl) ?_
      obtain ⟨t2, e2, hf⟩ := q_ob hf
      refine x_cSn (pc := 9) (st1 := [.int t2]) X E hI (c_X2_at l G e2) ks_X2_19 hd_X2_at ⟨rfl, rfl⟩ (by decide) rfl hl.1 rfl (Nat.le_of_ble_eq_true rfl) dX2_isOfKinds_9 ⟨Nat.le_of_ble_eq_true rfl, Nat.le_of_ble_eq_true rfl⟩ rfl (fun H locs hI => ?_)
      refine lv_iload_n (pc := 12) hx hb dX2_isOfKinds_12 rfl (lv_at hl 2 rfl) ?_
      refine lv_icmp_lt (pc := 13) (tgt := 18) hx hb dX2_isOfKinds_13 (by decide) (fun c3 => ?_) (fun c3 => ?_)
      · have hf := q_ip c3 hf
        refine lv_iinc (pc := 18) (v := l3 + 1) (lv' := [(3, .int (l3 + 1)), (0, .int l0), (1, .int l1), (2, .int l2)]) hx hb dX2_isOfKinds_18 hl (k := 3) rfl rfl (by decide) rfl (fun ls hl => ?_)
        refine lv_goto (pc := 21) (tgt := 2) hx hb dX2_isOfKinds_21 (by decide) ?_
        exact ih hI (lv_sub hl [1, 2, 3, 0] rfl) hf
      · have hf := q_in c3 hf
        refine lv_iconst (pc := 16) (v := 0) hx hb dX2_isOfKinds_16 (by decide) ?_
        obtain rfl := Option.some.inj hf
        exact x_zret X hI (Or.inl rfl) dX2_isOfKinds_17

set_option maxHeartbeats 4000000 in
set_option maxRecDepth 100000 in
theorem c_X2_isOfKinds (l : Launch) (G : GX)  {l0 : Int32} {l1 : Int32} {l2 : Int32} {res : Int32} (hf : f_X2_isOfKinds l0 l1 l2 = some res) : MX l yX2_isOfKinds cX2_isOfKinds 4 (some .boolean) rm_X2_isOfKinds G [] [.int l0, .int l1, .int l2] [] (some (.int res)) 0 0 := by
  refine MX.of (plainFor_of_name (by decide)) (Nat.le_of_ble_eq_true rfl) ?_
  intro p e s m below meth c A X E hI ls hl
  obtain ⟨hx, hb, hml, hown, hts, hr, hlk⟩ := id X
  have hl : lv_has ls 4 [(0, .int l0), (1, .int l1), (2, .int l2)] := hl
  unfold f_X2_isOfKinds at hf
  refine lv_iconst (pc := 0) (v := 0) hx hb dX2_isOfKinds_0 (by decide) ?_
  refine lv_istore_n (pc := 1) (lv' := [(3, .int 0), (0, .int l0), (1, .int l1), (2, .int l2)]) hx hb dX2_isOfKinds_1 rfl hl (by decide) rfl (fun ls hl => ?_)
  refine k_X2_isOfKinds_L2 X E (fun l3_1 H locs ls hI hl hf => ?_) hI (lv_sub hl [1, 2, 3, 0] rfl) hf
  refine lv_iconst (pc := 24) (v := 1) hx hb dX2_isOfKinds_24 (by decide) ?_
  obtain rfl := Option.some.inj hf
  exact x_zret X hI (Or.inr rfl) dX2_isOfKinds_25

abbrev rm_X2_howOftenEach : Room := { frames := 1, cells := 0, slots := 0, locals := 21 }
set_option maxHeartbeats 4000000 in
set_option maxRecDepth 100000 in
theorem k_X2_howOftenEach_L4 {p : Program} {l : Launch} {e : Env} {s : State} {m : MethodId} {args : Array Value} {below : List Frame} {meth : Method} {c : Code} {A : Nat → Prop} {G : GX}  {l0 : Int32} {l1 : Int32} {K : Int32 → Int32 → Option (Int32)} {res : Int32} (X : CX RX2 cX2_howOftenEach 4 (some .int) p s m args meth c) (E : EX G A s)
    (hK : ∀ (l2 : Int32) (l3 : Int32) (H : Heap) (locs : List Loc) (ls : Array Slot), IN A G [] s H locs → lv_has ls 4 [(0, .int l0), (1, .int l1), (2, .int l2), (3, .int l3)] → K l2 l3 = some res → W p l e rm_X2_howOftenEach s m args below meth c H locs 0 0 (MQ below (QX G A [] (some (.int res))) args s 0 0 A) (F0 m 70 ls [])) :
    ∀ {k : Nat} {l2 : Int32} {l3 : Int32} {H : Heap} {locs : List Loc} {ls : Array Slot}, IN A G [] s H locs → lv_has ls 4 [(0, .int l0), (1, .int l1), (2, .int l2), (3, .int l3)] → f_X2_howOftenEach_L4 l0 l1 K k l2 l3 = some res → W p l e rm_X2_howOftenEach s m args below meth c H locs 0 0 (MQ below (QX G A [] (some (.int res))) args s 0 0 A) (F0 m 4 ls []) := by
  obtain ⟨hx, hb, hml, hown, hts, hr, hlk⟩ := id X
  intro k
  induction k with
  | zero => intro l2 l3 H locs ls hI hl hf; exact nomatch (show none = some res from hf)
  | succ k ih =>
    intro l2 l3 H locs ls hI hl hf
    rw [f_X2_howOftenEach_L4] at hf
    refine lv_iload_n (pc := 4) hx hb dX2_howOftenEach_4 rfl (lv_at hl 3 rfl) ?_
    refine lv_iload_n (pc := 5) hx hb dX2_howOftenEach_5 rfl (lv_at hl 1 rfl) ?_
    refine lv_icmp_ge (pc := 6) (tgt := 70) hx hb dX2_howOftenEach_6 (by decide) (fun c1 => ?_) (fun c1 => ?_)
    · have hf := q_ip c1 hf
      exact hK _ _ _ _ _ hI (lv_sub hl [0, 1, 2, 3] rfl) hf
    · have hf := q_in c1 hf
      refine lv_iload_n (pc := 9) hx hb dX2_howOftenEach_9 rfl (lv_at hl 0 rfl) ?_
      refine lv_iload_n (pc := 10) hx hb dX2_howOftenEach_10 rfl (lv_at hl 3 rfl) ?_
      obtain ⟨t2, e2, hf⟩ := q_ob hf
      refine x_cSn (pc := 11) (st1 := [.int t2]) X E hI (c_X2_at l G e2) ks_X2_19 hd_X2_at ⟨rfl, rfl⟩ (by decide) rfl hl.1 rfl (Nat.le_of_ble_eq_true rfl) dX2_howOftenEach_11 ⟨Nat.le_of_ble_eq_true rfl, Nat.le_of_ble_eq_true rfl⟩ rfl (fun H locs hI => ?_)
      rcases Decidable.em (t2 = 0) with c3 | c3
      · refine lv_tableIn (pc := 14) (tgt := 40) hx hb dX2_howOftenEach_14 (by rw [c3]; decide) (by rw [c3]; decide) (by rw [c3]; rfl) (by decide) ?_
        have hf := q_ip c3 hf
        refine lv_iincW (pc := 40) (v := l2 + 1000) (lv' := [(2, .int (l2 + 1000)), (0, .int l0), (1, .int l1), (3, .int l3)]) hx hb dX2_howOftenEach_40 hl (k := 2) rfl rfl (by decide) rfl (fun ls hl => ?_)
        refine lv_goto (pc := 46) (tgt := 64) hx hb dX2_howOftenEach_46 (by decide) ?_
        refine lv_iinc (pc := 64) (v := l3 + 1) (lv' := [(3, .int (l3 + 1)), (2, .int (l2 + 1000)), (0, .int l0), (1, .int l1)]) hx hb dX2_howOftenEach_64 hl (k := 3) rfl rfl (by decide) rfl (fun ls hl => ?_)
        refine lv_goto (pc := 67) (tgt := 4) hx hb dX2_howOftenEach_67 (by decide) ?_
        exact ih hI (lv_sub hl [2, 3, 1, 0] rfl) hf
      · have hf := q_in c3 hf
        rcases Decidable.em (t2 = 1) with c4 | c4
        · refine lv_tableIn (pc := 14) (tgt := 49) hx hb dX2_howOftenEach_14 (by rw [c4]; decide) (by rw [c4]; decide) (by rw [c4]; rfl) (by decide) ?_
          have hf := q_ip c4 hf
          refine lv_iinc (pc := 49) (v := l2 + 100) (lv' := [(2, .int (l2 + 100)), (0, .int l0), (1, .int l1), (3, .int l3)]) hx hb dX2_howOftenEach_49 hl (k := 2) rfl rfl (by decide) rfl (fun ls hl => ?_)
          refine lv_goto (pc := 52) (tgt := 64) hx hb dX2_howOftenEach_52 (by decide) ?_
          refine lv_iinc (pc := 64) (v := l3 + 1) (lv' := [(3, .int (l3 + 1)), (2, .int (l2 + 100)), (0, .int l0), (1, .int l1)]) hx hb dX2_howOftenEach_64 hl (k := 3) rfl rfl (by decide) rfl (fun ls hl => ?_)
          refine lv_goto (pc := 67) (tgt := 4) hx hb dX2_howOftenEach_67 (by decide) ?_
          exact ih hI (lv_sub hl [2, 3, 1, 0] rfl) hf
        · have hf := q_in c4 hf
          rcases Decidable.em (t2 = 2) with c5 | c5
          · refine lv_tableIn (pc := 14) (tgt := 55) hx hb dX2_howOftenEach_14 (by rw [c5]; decide) (by rw [c5]; decide) (by rw [c5]; rfl) (by decide) ?_
            have hf := q_ip c5 hf
            refine lv_iinc (pc := 55) (v := l2 + 10) (lv' := [(2, .int (l2 + 10)), (0, .int l0), (1, .int l1), (3, .int l3)]) hx hb dX2_howOftenEach_55 hl (k := 2) rfl rfl (by decide) rfl (fun ls hl => ?_)
            refine lv_goto (pc := 58) (tgt := 64) hx hb dX2_howOftenEach_58 (by decide) ?_
            refine lv_iinc (pc := 64) (v := l3 + 1) (lv' := [(3, .int (l3 + 1)), (2, .int (l2 + 10)), (0, .int l0), (1, .int l1)]) hx hb dX2_howOftenEach_64 hl (k := 3) rfl rfl (by decide) rfl (fun ls hl => ?_)
            refine lv_goto (pc := 67) (tgt := 4) hx hb dX2_howOftenEach_67 (by decide) ?_
            exact ih hI (lv_sub hl [2, 3, 1, 0] rfl) hf
          · have hf := q_in c5 hf
            refine lv_tableOut (pc := 14) (tgt := 61) hx hb dX2_howOftenEach_14 (q_out_0_2 c3 c4 c5) (by decide) ?_
            refine lv_iinc (pc := 61) (v := l2 + 1) (lv' := [(2, .int (l2 + 1)), (0, .int l0), (1, .int l1), (3, .int l3)]) hx hb dX2_howOftenEach_61 hl (k := 2) rfl rfl (by decide) rfl (fun ls hl => ?_)
            refine lv_iinc (pc := 64) (v := l3 + 1) (lv' := [(3, .int (l3 + 1)), (2, .int (l2 + 1)), (0, .int l0), (1, .int l1)]) hx hb dX2_howOftenEach_64 hl (k := 3) rfl rfl (by decide) rfl (fun ls hl => ?_)
            refine lv_goto (pc := 67) (tgt := 4) hx hb dX2_howOftenEach_67 (by decide) ?_
            exact ih hI (lv_sub hl [2, 3, 1, 0] rfl) hf

set_option maxHeartbeats 4000000 in
set_option maxRecDepth 100000 in
theorem c_X2_howOftenEach (l : Launch) (G : GX)  {l0 : Int32} {l1 : Int32} {res : Int32} (hf : f_X2_howOftenEach l0 l1 = some res) : MX l yX2_howOftenEach cX2_howOftenEach 4 (some .int) rm_X2_howOftenEach G [] [.int l0, .int l1] [] (some (.int res)) 0 0 := by
  refine MX.of (plainFor_of_name (by decide)) (Nat.le_of_ble_eq_true rfl) ?_
  intro p e s m below meth c A X E hI ls hl
  obtain ⟨hx, hb, hml, hown, hts, hr, hlk⟩ := id X
  have hl : lv_has ls 4 [(0, .int l0), (1, .int l1)] := hl
  unfold f_X2_howOftenEach at hf
  refine lv_iconst (pc := 0) (v := 0) hx hb dX2_howOftenEach_0 (by decide) ?_
  refine lv_istore_n (pc := 1) (lv' := [(2, .int 0), (0, .int l0), (1, .int l1)]) hx hb dX2_howOftenEach_1 rfl hl (by decide) rfl (fun ls hl => ?_)
  refine lv_iconst (pc := 2) (v := 0) hx hb dX2_howOftenEach_2 (by decide) ?_
  refine lv_istore_n (pc := 3) (lv' := [(3, .int 0), (2, .int 0), (0, .int l0), (1, .int l1)]) hx hb dX2_howOftenEach_3 rfl hl (by decide) rfl (fun ls hl => ?_)
  refine k_X2_howOftenEach_L4 X E (fun l2_1 l3_1 H locs ls hI hl hf => ?_) hI (lv_sub hl [2, 3, 1, 0] rfl) hf
  refine lv_iload_n (pc := 70) hx hb dX2_howOftenEach_70 rfl (lv_at hl 2 rfl) ?_
  obtain rfl := Option.some.inj hf
  exact x_iret X hI dX2_howOftenEach_71

abbrev rm_X2_cycleType : Room := { frames := 1, cells := 0, slots := 0, locals := 21 }
set_option maxHeartbeats 4000000 in
set_option maxRecDepth 100000 in
theorem k_X2_cycleType_L20 {p : Program} {l : Launch} {e : Env} {s : State} {m : MethodId} {args : Array Value} {below : List Frame} {meth : Method} {c : Code} {A : Nat → Prop} {G : GX}  {l0 : Int32} {l1 : Int32} {l2 : Int32} {l4 : Int32} {K : Int32 → Int32 → Int32 → Option (Int32)} {res : Int32} (X : CX RX2 cX2_cycleType 7 (some .int) p s m args meth c) (E : EX G A s)
    (hK : ∀ (l3 : Int32) (l5 : Int32) (l6 : Int32) (H : Heap) (locs : List Loc) (ls : Array Slot), IN A G [] s H locs → lv_has ls 7 [(0, .int l0), (1, .int l1), (2, .int l2), (3, .int l3), (4, .int l4), (5, .int l5), (6, .int l6)] → K l3 l5 l6 = some res → W p l e rm_X2_cycleType s m args below meth c H locs 0 0 (MQ below (QX G A [] (some (.int res))) args s 0 0 A) (F0 m 57 ls [])) :
    ∀ {k : Nat} {l3 : Int32} {l5 : Int32} {l6 : Int32} {H : Heap} {locs : List Loc} {ls : Array Slot}, IN A G [] s H locs → lv_has ls 7 [(0, .int l0), (1, .int l1), (2, .int l2), (3, .int l3), (4, .int l4), (5, .int l5), (6, .int l6)] → f_X2_cycleType_L20 l0 l1 l2 l4 K k l3 l5 l6 = some res → W p l e rm_X2_cycleType s m args below meth c H locs 0 0 (MQ below (QX G A [] (some (.int res))) args s 0 0 A) (F0 m 20 ls []) := by
  obtain ⟨hx, hb, hml, hown, hts, hr, hlk⟩ := id X
  intro k
  induction k with
  | zero => intro l3 l5 l6 H locs ls hI hl hf; exact nomatch (show none = some res from hf)
  | succ k ih =>
    intro l3 l5 l6 H locs ls hI hl hf
    rw [f_X2_cycleType_L20] at hf
    refine lv_iload (pc := 20) hx hb dX2_cycleType_20 (lv_at hl 5 rfl) ?_
    refine lv_bipush (pc := 22) (v := 6) hx hb dX2_cycleType_22 (by decide) ?_
    refine lv_icmp_ge (pc := 24) (tgt := 57) hx hb dX2_cycleType_24 (by decide) (fun c1 => ?_) (fun c1 => ?_)
    · have hf := q_ip c1 hf
      exact hK _ _ _ _ _ _ hI (lv_sub hl [0, 1, 2, 3, 4, 5, 6] rfl) hf
    · have hf := q_in c1 hf
      refine lv_iload_n (pc := 27) hx hb dX2_cycleType_27 rfl (lv_at hl 3 rfl) ?_
      refine lv_iload (pc := 28) hx hb dX2_cycleType_28 (lv_at hl 6 rfl) ?_
      refine lv_ishr (pc := 30) hx hb dX2_cycleType_30 ?_
      refine lv_iconst (pc := 31) (v := 1) hx hb dX2_cycleType_31 (by decide) ?_
      refine lv_iand (pc := 32) hx hb dX2_cycleType_32 ?_
      refine lv_if_ne (pc := 33) (tgt := 57) hx hb dX2_cycleType_33 (by decide) (fun c2 => ?_) (fun c2 => ?_)
      · have hf := q_in c2 hf
        exact hK _ _ _ _ _ _ hI (lv_sub hl [0, 1, 2, 3, 4, 5, 6] rfl) hf
      · have hf := q_ip c2 hf
        refine lv_iload_n (pc := 36) hx hb dX2_cycleType_36 rfl (lv_at hl 3 rfl) ?_
        refine lv_iconst (pc := 37) (v := 1) hx hb dX2_cycleType_37 (by decide) ?_
        refine lv_iload (pc := 38) hx hb dX2_cycleType_38 (lv_at hl 6 rfl) ?_
        refine lv_ishl (pc := 40) hx hb dX2_cycleType_40 ?_
        refine lv_ior (pc := 41) hx hb dX2_cycleType_41 ?_
        refine lv_istore_n (pc := 42) (lv' := [(3, .int (l3 ||| (1 <<< (l6 &&& 31)))), (0, .int l0), (1, .int l1), (2, .int l2), (4, .int l4), (5, .int l5), (6, .int l6)]) hx hb dX2_cycleType_42 rfl hl (by decide) rfl (fun ls hl => ?_)
        refine lv_iload_n (pc := 43) hx hb dX2_cycleType_43 rfl (lv_at hl 1 rfl) ?_
        refine lv_iload (pc := 44) hx hb dX2_cycleType_44 (lv_at hl 6 rfl) ?_
        obtain ⟨t3, e3, hf⟩ := q_ob hf
        refine x_cSn (pc := 46) (st1 := [.int t3]) X E hI (c_X2_at l G e3) ks_X2_19 hd_X2_at ⟨rfl, rfl⟩ (by decide) rfl hl.1 rfl (Nat.le_of_ble_eq_true rfl) dX2_cycleType_46 ⟨Nat.le_of_ble_eq_true rfl, Nat.le_of_ble_eq_true rfl⟩ rfl (fun H locs hI => ?_)
        refine lv_istore (pc := 49) (lv' := [(6, .int t3), (3, .int (l3 ||| (1 <<< (l6 &&& 31)))), (0, .int l0), (1, .int l1), (2, .int l2), (4, .int l4), (5, .int l5)]) hx hb dX2_cycleType_49 hl (by decide) rfl (fun ls hl => ?_)
        refine lv_iinc (pc := 51) (v := l5 + 1) (lv' := [(5, .int (l5 + 1)), (6, .int t3), (3, .int (l3 ||| (1 <<< (l6 &&& 31)))), (0, .int l0), (1, .int l1), (2, .int l2), (4, .int l4)]) hx hb dX2_cycleType_51 hl (k := 6) rfl rfl (by decide) rfl (fun ls hl => ?_)
        refine lv_goto (pc := 54) (tgt := 20) hx hb dX2_cycleType_54 (by decide) ?_
        exact ih hI (lv_sub hl [3, 4, 5, 2, 6, 0, 1] rfl) hf

set_option maxHeartbeats 4000000 in
set_option maxRecDepth 100000 in
theorem k_X2_cycleType_L7 {p : Program} {l : Launch} {e : Env} {s : State} {m : MethodId} {args : Array Value} {below : List Frame} {meth : Method} {c : Code} {A : Nat → Prop} {G : GX}  {l0 : Int32} {l1 : Int32} {K : Int32 → Int32 → Int32 → Option (Int32)} {res : Int32} (X : CX RX2 cX2_cycleType 7 (some .int) p s m args meth c) (E : EX G A s)
    (hK : ∀ (l2 : Int32) (l3 : Int32) (l4 : Int32) (H : Heap) (locs : List Loc) (ls : Array Slot), IN A G [] s H locs → lv_has ls 7 [(0, .int l0), (1, .int l1), (2, .int l2), (3, .int l3), (4, .int l4)] → K l2 l3 l4 = some res → W p l e rm_X2_cycleType s m args below meth c H locs 0 0 (MQ below (QX G A [] (some (.int res))) args s 0 0 A) (F0 m 72 ls [])) :
    ∀ {k : Nat} {l2 : Int32} {l3 : Int32} {l4 : Int32} {H : Heap} {locs : List Loc} {ls : Array Slot}, IN A G [] s H locs → lv_has ls 7 [(0, .int l0), (1, .int l1), (2, .int l2), (3, .int l3), (4, .int l4)] → f_X2_cycleType_L7 l0 l1 K k l2 l3 l4 = some res → W p l e rm_X2_cycleType s m args below meth c H locs 0 0 (MQ below (QX G A [] (some (.int res))) args s 0 0 A) (F0 m 7 ls []) := by
  obtain ⟨hx, hb, hml, hown, hts, hr, hlk⟩ := id X
  intro k
  induction k with
  | zero => intro l2 l3 l4 H locs ls hI hl hf; exact nomatch (show none = some res from hf)
  | succ k ih =>
    intro l2 l3 l4 H locs ls hI hl hf
    rw [f_X2_cycleType_L7] at hf
    refine lv_iload (pc := 7) hx hb dX2_cycleType_7 (lv_at hl 4 rfl) ?_
    refine lv_iload_n (pc := 9) hx hb dX2_cycleType_9 rfl (lv_at hl 1 rfl) ?_
    refine lv_icmp_ge (pc := 10) (tgt := 72) hx hb dX2_cycleType_10 (by decide) (fun c1 => ?_) (fun c1 => ?_)
    · have hf := q_ip c1 hf
      exact hK _ _ _ _ _ _ hI (lv_sub hl [0, 1, 2, 3, 4] rfl) hf
    · have hf := q_in c1 hf
      refine lv_iconst (pc := 13) (v := 0) hx hb dX2_cycleType_13 (by decide) ?_
      refine lv_istore (pc := 14) (lv' := [(5, .int 0), (0, .int l0), (1, .int l1), (2, .int l2), (3, .int l3), (4, .int l4)]) hx hb dX2_cycleType_14 hl (by decide) rfl (fun ls hl => ?_)
      refine lv_iload (pc := 16) hx hb dX2_cycleType_16 (lv_at hl 5 rfl) ?_
      refine lv_istore (pc := 18) (lv' := [(6, .int l4), (5, .int 0), (0, .int l0), (1, .int l1), (2, .int l2), (3, .int l3), (4, .int l4)]) hx hb dX2_cycleType_18 hl (by decide) rfl (fun ls hl => ?_)
      refine k_X2_cycleType_L20 X E (fun l3_2 l5_2 l6_2 H locs ls hI hl hf => ?_) hI (lv_sub hl [2, 3, 4, 5, 6, 1, 0] rfl) hf
      refine lv_iload_n (pc := 57) hx hb dX2_cycleType_57 rfl (lv_at hl 2 rfl) ?_
      refine va_getsN (pc := 58) hx hb E.2.2.1 hI.2.2 hown (E.2.2.2.2.use rfl) (fun _ h => h) dX2_cycleType_58 ?_
      refine lv_iload (pc := 61) hx hb dX2_cycleType_61 (lv_at hl 5 rfl) ?_
      obtain ⟨t3, e3, hf⟩ := q_ob hf
      refine x_tald (pc := 63) X E hI e3 dX2_cycleType_63 ?_
      refine lv_iadd (pc := 64) hx hb dX2_cycleType_64 ?_
      refine lv_istore_n (pc := 65) (lv' := [(2, .int (l2 + t3)), (0, .int l0), (1, .int l1), (3, .int l3_2), (4, .int l4), (5, .int l5_2), (6, .int l6_2)]) hx hb dX2_cycleType_65 rfl hl (by decide) rfl (fun ls hl => ?_)
      refine lv_iinc (pc := 66) (v := l4 + 1) (lv' := [(4, .int (l4 + 1)), (2, .int (l2 + t3)), (0, .int l0), (1, .int l1), (3, .int l3_2), (5, .int l5_2), (6, .int l6_2)]) hx hb dX2_cycleType_66 hl (k := 4) rfl rfl (by decide) rfl (fun ls hl => ?_)
      refine lv_goto (pc := 69) (tgt := 7) hx hb dX2_cycleType_69 (by decide) ?_
      exact ih hI (lv_sub hl [2, 3, 1, 4, 0] rfl) hf

set_option maxHeartbeats 4000000 in
set_option maxRecDepth 100000 in
theorem c_X2_cycleType (l : Launch) (G : GX)  {l0 : Int32} {l1 : Int32} {res : Int32} (hf : f_X2_cycleType l0 l1 = some res) : MX l yX2_cycleType cX2_cycleType 7 (some .int) rm_X2_cycleType G [] [.int l0, .int l1] [] (some (.int res)) 0 0 := by
  refine MX.of (plainFor_of_name (by decide)) (Nat.le_of_ble_eq_true rfl) ?_
  intro p e s m below meth c A X E hI ls hl
  obtain ⟨hx, hb, hml, hown, hts, hr, hlk⟩ := id X
  have hl : lv_has ls 7 [(0, .int l0), (1, .int l1)] := hl
  unfold f_X2_cycleType at hf
  refine lv_iconst (pc := 0) (v := 0) hx hb dX2_cycleType_0 (by decide) ?_
  refine lv_istore_n (pc := 1) (lv' := [(2, .int 0), (0, .int l0), (1, .int l1)]) hx hb dX2_cycleType_1 rfl hl (by decide) rfl (fun ls hl => ?_)
  refine lv_iconst (pc := 2) (v := 0) hx hb dX2_cycleType_2 (by decide) ?_
  refine lv_istore_n (pc := 3) (lv' := [(3, .int 0), (2, .int 0), (0, .int l0), (1, .int l1)]) hx hb dX2_cycleType_3 rfl hl (by decide) rfl (fun ls hl => ?_)
  refine lv_iconst (pc := 4) (v := 0) hx hb dX2_cycleType_4 (by decide) ?_
  refine lv_istore (pc := 5) (lv' := [(4, .int 0), (3, .int 0), (2, .int 0), (0, .int l0), (1, .int l1)]) hx hb dX2_cycleType_5 hl (by decide) rfl (fun ls hl => ?_)
  refine k_X2_cycleType_L7 X E (fun l2_1 l3_1 l4_1 H locs ls hI hl hf => ?_) hI (lv_sub hl [3, 4, 2, 1, 0] rfl) hf
  refine lv_iload_n (pc := 72) hx hb dX2_cycleType_72 rfl (lv_at hl 2 rfl) ?_
  obtain rfl := Option.some.inj hf
  exact x_iret X hI dX2_cycleType_73

abbrev rm_X0_ofDouble : Room := { frames := 0, cells := 0, slots := 0, locals := 0 }
set_option maxHeartbeats 4000000 in
set_option maxRecDepth 100000 in
theorem k_X0_ofDouble_L18 {p : Program} {l : Launch} {e : Env} {s : State} {m : MethodId} {args : Array Value} {below : List Frame} {meth : Method} {c : Code} {A : Nat → Prop} {G : GX}   {K : UInt64 → Int64 → Int32 → Option (Int64)} {res : Int64} (X : CX RX0 cX0_ofDouble 8 (some .long) p s m args meth c) (E : EX G A s)
    (hK : ∀ (l2 : UInt64) (l4 : Int64) (l6 : Int32) (H : Heap) (locs : List Loc) (ls : Array Slot), IN A G [] s H locs → lv_has ls 8 [(2, .double l2), (4, .long l4), (6, .int l6)] → K l2 l4 l6 = some res → W p l e rm_X0_ofDouble s m args below meth c H locs 0 0 (MQ below (QX G A [] (some (.long res))) args s 0 0 A) (F0 m 52 ls [])) :
    ∀ {k : Nat} {l2 : UInt64} {l4 : Int64} {l6 : Int32} {H : Heap} {locs : List Loc} {ls : Array Slot}, IN A G [] s H locs → lv_has ls 8 [(2, .double l2), (4, .long l4), (6, .int l6)] → f_X0_ofDouble_L18 K k l2 l4 l6 = some res → W p l e rm_X0_ofDouble s m args below meth c H locs 0 0 (MQ below (QX G A [] (some (.long res))) args s 0 0 A) (F0 m 18 ls []) := by
  obtain ⟨hx, hb, hml, hown, hts, hr, hlk⟩ := id X
  intro k
  induction k with
  | zero => intro l2 l4 l6 H locs ls hI hl hf; exact nomatch (show none = some res from hf)
  | succ k ih =>
    intro l2 l4 l6 H locs ls hI hl hf
    rw [f_X0_ofDouble_L18] at hf
    refine lv_iload (pc := 18) hx hb dX0_ofDouble_18 (lv_at hl 2 rfl) ?_
    refine lv_sipush (pc := 20) (v := 1024) hx hb dX0_ofDouble_20 (by decide) ?_
    refine lv_icmp_ge (pc := 23) (tgt := 52) hx hb dX0_ofDouble_23 (by decide) (fun c1 => ?_) (fun c1 => ?_)
    · have hf := q_ip c1 hf
      exact hK _ _ _ _ _ _ hI (lv_sub hl [0, 1, 2] rfl) hf
    · have hf := q_in c1 hf
      refine lv_dload_n (pc := 26) hx hb dX0_ofDouble_26 rfl (lv_at hl 0 rfl) ?_
      refine lv_ldc2d (pc := 27) (v := 4611686018427387904) hx hb hown (hts _ tw_3_50) dX0_ofDouble_27 ?_
      refine lv_dcmp (pc := 30) hx hb dX0_ofDouble_30 ?_
      refine lv_if_lt (pc := 31) (tgt := 52) hx hb dX0_ofDouble_31 (by decide) (fun c2 => ?_) (fun c2 => ?_)
      · have hf := q_ip c2 hf
        exact hK _ _ _ _ _ _ hI (lv_sub hl [0, 1, 2] rfl) hf
      · have hf := q_in c2 hf
        refine lv_dload_n (pc := 34) hx hb dX0_ofDouble_34 rfl (lv_at hl 0 rfl) ?_
        refine lv_ldc2d (pc := 35) (v := 4611686018427387904) hx hb hown (hts _ tw_3_50) dX0_ofDouble_35 ?_
        obtain ⟨t3, e3, hf⟩ := q_ob hf
        refine x_ddiv (pc := 38) X e3 dX0_ofDouble_38 ?_
        refine lv_dstore_n (pc := 39) (lv' := [(2, .double t3), (4, .long l4), (6, .int l6)]) hx hb dX0_ofDouble_39 rfl hl (by decide) rfl (fun ls hl => ?_)
        refine lv_lload (pc := 40) hx hb dX0_ofDouble_40 (lv_at hl 1 rfl) ?_
        refine lv_lconst (pc := 42) (v := 1) hx hb dX0_ofDouble_42 (by decide) ?_
        refine lv_ladd (pc := 43) hx hb dX0_ofDouble_43 ?_
        refine lv_lstore (pc := 44) (lv' := [(4, .long (l4 + 1)), (2, .double t3), (6, .int l6)]) hx hb dX0_ofDouble_44 hl (by decide) rfl (fun ls hl => ?_)
        refine lv_iinc (pc := 46) (v := l6 + 1) (lv' := [(6, .int (l6 + 1)), (4, .long (l4 + 1)), (2, .double t3)]) hx hb dX0_ofDouble_46 hl (k := 2) rfl rfl (by decide) rfl (fun ls hl => ?_)
        refine lv_goto (pc := 49) (tgt := 18) hx hb dX0_ofDouble_49 (by decide) ?_
        exact ih hI (lv_sub hl [2, 1, 0] rfl) hf

set_option maxHeartbeats 4000000 in
set_option maxRecDepth 100000 in
theorem k_X0_ofDouble_L55 {p : Program} {l : Launch} {e : Env} {s : State} {m : MethodId} {args : Array Value} {below : List Frame} {meth : Method} {c : Code} {A : Nat → Prop} {G : GX}   {K : UInt64 → Int64 → Int32 → Option (Int64)} {res : Int64} (X : CX RX0 cX0_ofDouble 8 (some .long) p s m args meth c) (E : EX G A s)
    (hK : ∀ (l2 : UInt64) (l4 : Int64) (l6 : Int32) (H : Heap) (locs : List Loc) (ls : Array Slot), IN A G [] s H locs → lv_has ls 8 [(2, .double l2), (4, .long l4), (6, .int l6)] → K l2 l4 l6 = some res → W p l e rm_X0_ofDouble s m args below meth c H locs 0 0 (MQ below (QX G A [] (some (.long res))) args s 0 0 A) (F0 m 87 ls [])) :
    ∀ {k : Nat} {l2 : UInt64} {l4 : Int64} {l6 : Int32} {H : Heap} {locs : List Loc} {ls : Array Slot}, IN A G [] s H locs → lv_has ls 8 [(2, .double l2), (4, .long l4), (6, .int l6)] → f_X0_ofDouble_L55 K k l2 l4 l6 = some res → W p l e rm_X0_ofDouble s m args below meth c H locs 0 0 (MQ below (QX G A [] (some (.long res))) args s 0 0 A) (F0 m 55 ls []) := by
  obtain ⟨hx, hb, hml, hown, hts, hr, hlk⟩ := id X
  intro k
  induction k with
  | zero => intro l2 l4 l6 H locs ls hI hl hf; exact nomatch (show none = some res from hf)
  | succ k ih =>
    intro l2 l4 l6 H locs ls hI hl hf
    rw [f_X0_ofDouble_L55] at hf
    refine lv_iload (pc := 55) hx hb dX0_ofDouble_55 (lv_at hl 2 rfl) ?_
    refine lv_sipush (pc := 57) (v := 1023) hx hb dX0_ofDouble_57 (by decide) ?_
    refine lv_icmp_ge (pc := 60) (tgt := 87) hx hb dX0_ofDouble_60 (by decide) (fun c1 => ?_) (fun c1 => ?_)
    · have hf := q_ip c1 hf
      exact hK _ _ _ _ _ _ hI (lv_sub hl [0, 1, 2] rfl) hf
    · have hf := q_in c1 hf
      refine lv_dload_n (pc := 63) hx hb dX0_ofDouble_63 rfl (lv_at hl 0 rfl) ?_
      refine lv_dconst1 (pc := 64) hx hb dX0_ofDouble_64 ?_
      refine lv_dcmp (pc := 65) hx hb dX0_ofDouble_65 ?_
      refine lv_if_ge (pc := 66) (tgt := 87) hx hb dX0_ofDouble_66 (by decide) (fun c2 => ?_) (fun c2 => ?_)
      · have hf := q_ip c2 hf
        exact hK _ _ _ _ _ _ hI (lv_sub hl [0, 1, 2] rfl) hf
      · have hf := q_in c2 hf
        refine lv_dload_n (pc := 69) hx hb dX0_ofDouble_69 rfl (lv_at hl 0 rfl) ?_
        refine lv_ldc2d (pc := 70) (v := 4611686018427387904) hx hb hown (hts _ tw_3_50) dX0_ofDouble_70 ?_
        obtain ⟨t3, e3, hf⟩ := q_ob hf
        refine x_dmul (pc := 73) X e3 dX0_ofDouble_73 ?_
        refine lv_dstore_n (pc := 74) (lv' := [(2, .double t3), (4, .long l4), (6, .int l6)]) hx hb dX0_ofDouble_74 rfl hl (by decide) rfl (fun ls hl => ?_)
        refine lv_lload (pc := 75) hx hb dX0_ofDouble_75 (lv_at hl 1 rfl) ?_
        refine lv_lconst (pc := 77) (v := 1) hx hb dX0_ofDouble_77 (by decide) ?_
        refine lv_lsub (pc := 78) hx hb dX0_ofDouble_78 ?_
        refine lv_lstore (pc := 79) (lv' := [(4, .long (l4 - 1)), (2, .double t3), (6, .int l6)]) hx hb dX0_ofDouble_79 hl (by decide) rfl (fun ls hl => ?_)
        refine lv_iinc (pc := 81) (v := l6 + 1) (lv' := [(6, .int (l6 + 1)), (4, .long (l4 - 1)), (2, .double t3)]) hx hb dX0_ofDouble_81 hl (k := 2) rfl rfl (by decide) rfl (fun ls hl => ?_)
        refine lv_goto (pc := 84) (tgt := 55) hx hb dX0_ofDouble_84 (by decide) ?_
        exact ih hI (lv_sub hl [2, 1, 0] rfl) hf

set_option maxHeartbeats 4000000 in
set_option maxRecDepth 100000 in
theorem c_X0_ofDouble (l : Launch) (G : GX)  {l0 : UInt64} {res : Int64} (hf : f_X0_ofDouble l0 = some res) : MX l yX0_ofDouble cX0_ofDouble 8 (some .long) rm_X0_ofDouble G [] [.double l0] [] (some (.long res)) 0 0 := by
  refine MX.of (plainFor_of_name (by decide)) (Nat.le_of_ble_eq_true rfl) ?_
  intro p e s m below meth c A X E hI ls hl
  obtain ⟨hx, hb, hml, hown, hts, hr, hlk⟩ := id X
  have hl : lv_has ls 8 [(0, .double l0)] := hl
  unfold f_X0_ofDouble at hf
  refine lv_dload_n (pc := 0) hx hb dX0_ofDouble_0 rfl (lv_at hl 0 rfl) ?_
  refine lv_dconst0 (pc := 1) hx hb dX0_ofDouble_1 ?_
  refine lv_dcmp (pc := 2) hx hb dX0_ofDouble_2 ?_
  refine lv_if_gt (pc := 3) (tgt := 8) hx hb dX0_ofDouble_3 (by decide) (fun c1 => ?_) (fun c1 => ?_)
  · have hf := q_ip c1 hf
    refine lv_dload_n (pc := 8) hx hb dX0_ofDouble_8 rfl (lv_at hl 0 rfl) ?_
    refine lv_dstore_n (pc := 9) (lv' := [(2, .double l0), (0, .double l0)]) hx hb dX0_ofDouble_9 rfl hl (by decide) rfl (fun ls hl => ?_)
    refine lv_ldc2 (pc := 10) (v := 1023) hx hb hown (hts _ tw_3_49) dX0_ofDouble_10 ?_
    refine lv_lstore (pc := 13) (lv' := [(4, .long 1023), (2, .double l0), (0, .double l0)]) hx hb dX0_ofDouble_13 hl (by decide) rfl (fun ls hl => ?_)
    refine lv_iconst (pc := 15) (v := 0) hx hb dX0_ofDouble_15 (by decide) ?_
    refine lv_istore (pc := 16) (lv' := [(6, .int 0), (4, .long 1023), (2, .double l0), (0, .double l0)]) hx hb dX0_ofDouble_16 hl (by decide) rfl (fun ls hl => ?_)
    refine k_X0_ofDouble_L18 X E (fun l2_2 l4_2 l6_2 H locs ls hI hl hf => ?_) hI (lv_sub hl [2, 1, 0] rfl) hf
    refine lv_iconst (pc := 52) (v := 0) hx hb dX0_ofDouble_52 (by decide) ?_
    refine lv_istore (pc := 53) (lv' := [(6, .int 0), (2, .double l2_2), (4, .long l4_2)]) hx hb dX0_ofDouble_53 hl (by decide) rfl (fun ls hl => ?_)
    refine k_X0_ofDouble_L55 X E (fun l2_3 l4_3 l6_3 H locs ls hI hl hf => ?_) hI (lv_sub hl [1, 2, 0] rfl) hf
    refine lv_ldc2 (pc := 87) (v := 4503599627370496) hx hb hown (hts _ tw_3_51) dX0_ofDouble_87 ?_
    refine lv_lstore (pc := 90) (lv' := [(6, .long 4503599627370496), (2, .double l2_3), (4, .long l4_3)]) hx hb dX0_ofDouble_90 hl (by decide) rfl (fun ls hl => ?_)
    refine lv_lload (pc := 92) hx hb dX0_ofDouble_92 (lv_at hl 2 rfl) ?_
    refine lv_bipush (pc := 94) (v := 52) hx hb dX0_ofDouble_94 (by decide) ?_
    refine lv_lshl (pc := 96) (v := l4_3 <<< ((52 : Int32).toInt64 &&& 63)) hx hb dX0_ofDouble_96 rfl ?_
    refine lv_dload_n (pc := 97) hx hb dX0_ofDouble_97 rfl (lv_at hl 1 rfl) ?_
    refine lv_lload (pc := 98) hx hb dX0_ofDouble_98 (lv_at hl 0 rfl) ?_
    refine lv_l2d (pc := 100) hx hb dX0_ofDouble_100 ?_
    obtain ⟨t4, e4, hf⟩ := q_ob hf
    refine x_dmul (pc := 101) X e4 dX0_ofDouble_101 ?_
    refine lv_d2l (pc := 102) hx hb dX0_ofDouble_102 ?_
    refine lv_lload (pc := 103) hx hb dX0_ofDouble_103 (lv_at hl 0 rfl) ?_
    refine lv_lsub (pc := 105) hx hb dX0_ofDouble_105 ?_
    refine lv_ladd (pc := 106) hx hb dX0_ofDouble_106 ?_
    obtain rfl := Option.some.inj hf
    exact x_lret X hI dX0_ofDouble_107
  · have hf := q_in c1 hf
    refine lv_lconst (pc := 6) (v := 0) hx hb dX0_ofDouble_6 (by decide) ?_
    obtain rfl := Option.some.inj hf
    exact x_lret X hI dX0_ofDouble_7

abbrev rm_X0_ofFloat : Room := { frames := 1, cells := 0, slots := 0, locals := 27 }
set_option maxHeartbeats 4000000 in
set_option maxRecDepth 100000 in
theorem c_X0_ofFloat (l : Launch) (G : GX)  {l0 : UInt32} {res : Int32} (hf : f_X0_ofFloat l0 = some res) : MX l yX0_ofFloat cX0_ofFloat 5 (some .int) rm_X0_ofFloat G [] [.float l0] [] (some (.int res)) 0 0 := by
  refine MX.of (plainFor_of_name (by decide)) (Nat.le_of_ble_eq_true rfl) ?_
  intro p e s m below meth c A X E hI ls hl
  obtain ⟨hx, hb, hml, hown, hts, hr, hlk⟩ := id X
  have hl : lv_has ls 5 [(0, .float l0)] := hl
  unfold f_X0_ofFloat at hf
  refine lv_fload_n (pc := 0) hx hb dX0_ofFloat_0 rfl (lv_at hl 0 rfl) ?_
  refine lv_fconst0 (pc := 1) hx hb dX0_ofFloat_1 ?_
  refine lv_fcmp (pc := 2) hx hb dX0_ofFloat_2 ?_
  refine lv_if_gt (pc := 3) (tgt := 8) hx hb dX0_ofFloat_3 (by decide) (fun c1 => ?_) (fun c1 => ?_)
  · have hf := q_ip c1 hf
    refine lv_fload_n (pc := 8) hx hb dX0_ofFloat_8 rfl (lv_at hl 0 rfl) ?_
    obtain ⟨t2, e2, hf⟩ := q_ob hf
    refine x_f2d (pc := 9) X e2 dX0_ofFloat_9 ?_
    obtain ⟨t3, e3, hf⟩ := q_ob hf
    refine x_cSn (pc := 10) (st1 := [.long t3]) X E hI (c_X0_ofDouble l G e3) ks_X0_7 hd_X0_ofDouble ⟨rfl, rfl⟩ (by decide) rfl hl.1 rfl (Nat.le_of_ble_eq_true rfl) dX0_ofFloat_10 ⟨Nat.le_of_ble_eq_true rfl, Nat.le_of_ble_eq_true rfl⟩ rfl (fun H locs hI => ?_)
    refine lv_lstore_n (pc := 13) (lv' := [(1, .long t3), (0, .float l0)]) hx hb dX0_ofFloat_13 rfl hl (by decide) rfl (fun ls hl => ?_)
    refine lv_lload_n (pc := 14) hx hb dX0_ofFloat_14 rfl (lv_at hl 0 rfl) ?_
    refine lv_bipush (pc := 15) (v := 52) hx hb dX0_ofFloat_15 (by decide) ?_
    refine lv_lshr (pc := 17) (v := t3 >>> ((52 : Int32).toInt64 &&& 63)) hx hb dX0_ofFloat_17 rfl ?_
    refine lv_l2i (pc := 18) (v := (t3 >>> ((52 : Int32).toInt64 &&& 63) : Int64).toInt32) hx hb dX0_ofFloat_18 rfl ?_
    refine lv_sipush (pc := 19) (v := 1023) hx hb dX0_ofFloat_19 (by decide) ?_
    refine lv_isub (pc := 22) hx hb dX0_ofFloat_22 ?_
    refine lv_bipush (pc := 23) (v := 127) hx hb dX0_ofFloat_23 (by decide) ?_
    refine lv_iadd (pc := 25) hx hb dX0_ofFloat_25 ?_
    refine lv_istore_n (pc := 26) (lv' := [(3, .int ((((t3 >>> ((52 : Int32).toInt64 &&& 63) : Int64).toInt32) - 1023) + 127)), (1, .long t3), (0, .float l0)]) hx hb dX0_ofFloat_26 rfl hl (by decide) rfl (fun ls hl => ?_)
    refine lv_lload_n (pc := 27) hx hb dX0_ofFloat_27 rfl (lv_at hl 1 rfl) ?_
    refine lv_bipush (pc := 28) (v := 29) hx hb dX0_ofFloat_28 (by decide) ?_
    refine lv_lshr (pc := 30) (v := t3 >>> ((29 : Int32).toInt64 &&& 63)) hx hb dX0_ofFloat_30 rfl ?_
    refine lv_l2i (pc := 31) (v := (t3 >>> ((29 : Int32).toInt64 &&& 63) : Int64).toInt32) hx hb dX0_ofFloat_31 rfl ?_
    refine lv_ldc (pc := 32) (v := 8388607) hx hb hown (hts _ tw_3_52) dX0_ofFloat_32 ?_
    refine lv_iand (pc := 34) hx hb dX0_ofFloat_34 ?_
    refine lv_istore (pc := 35) (lv' := [(4, .int (((t3 >>> ((29 : Int32).toInt64 &&& 63) : Int64).toInt32) &&& 8388607)), (3, .int ((((t3 >>> ((52 : Int32).toInt64 &&& 63) : Int64).toInt32) - 1023) + 127)), (1, .long t3), (0, .float l0)]) hx hb dX0_ofFloat_35 hl (by decide) rfl (fun ls hl => ?_)
    refine lv_iload_n (pc := 37) hx hb dX0_ofFloat_37 rfl (lv_at hl 1 rfl) ?_
    refine lv_bipush (pc := 38) (v := 23) hx hb dX0_ofFloat_38 (by decide) ?_
    refine lv_ishl (pc := 40) hx hb dX0_ofFloat_40 ?_
    refine lv_iload (pc := 41) hx hb dX0_ofFloat_41 (lv_at hl 0 rfl) ?_
    refine lv_ior (pc := 43) hx hb dX0_ofFloat_43 ?_
    obtain rfl := Option.some.inj hf
    exact x_iret X hI dX0_ofFloat_44
  · have hf := q_in c1 hf
    refine lv_iconst (pc := 6) (v := 0) hx hb dX0_ofFloat_6 (by decide) ?_
    obtain rfl := Option.some.inj hf
    exact x_iret X hI dX0_ofFloat_7

abbrev rm_X5_behind : Room := { frames := 2, cells := 0, slots := 0, locals := 45 }
set_option maxHeartbeats 4000000 in
set_option maxRecDepth 100000 in
theorem c_X5_behind (l : Launch) (G : GX)  {l0 : Int32} {l1 : Int32} {l2 : Int32} {res : Int32} (hf : f_X5_behind l0 l1 l2 = some res) : MX l yX5_behind cX5_behind 3 (some .int) rm_X5_behind G [] [.int l0, .int l1, .int l2] [] (some (.int res)) 0 0 := by
  refine MX.of (plainFor_of_name (by decide)) (Nat.le_of_ble_eq_true rfl) ?_
  intro p e s m below meth c A X E hI ls hl
  obtain ⟨hx, hb, hml, hown, hts, hr, hlk⟩ := id X
  have hl : lv_has ls 3 [(0, .int l0), (1, .int l1), (2, .int l2)] := hl
  unfold f_X5_behind at hf
  refine lv_iload_n (pc := 0) hx hb dX5_behind_0 rfl (lv_at hl 0 rfl) ?_
  refine lv_iconst (pc := 1) (v := 1) hx hb dX5_behind_1 (by decide) ?_
  refine lv_ishr (pc := 2) hx hb dX5_behind_2 ?_
  refine lv_iload_n (pc := 3) hx hb dX5_behind_3 rfl (lv_at hl 1 rfl) ?_
  refine lv_iconst (pc := 4) (v := 1) hx hb dX5_behind_4 (by decide) ?_
  refine lv_ishr (pc := 5) hx hb dX5_behind_5 ?_
  refine lv_iload_n (pc := 6) hx hb dX5_behind_6 rfl (lv_at hl 2 rfl) ?_
  obtain ⟨t1, e1, hf⟩ := q_ob hf
  refine x_cSn (pc := 7) (st1 := [.int t1]) X E hI (c_X2_moved l G e1) ks_X5_18 hd_X2_moved ⟨rfl, rfl⟩ (by decide) rfl hl.1 rfl (Nat.le_of_ble_eq_true rfl) dX5_behind_7 ⟨Nat.le_of_ble_eq_true rfl, Nat.le_of_ble_eq_true rfl⟩ rfl (fun H locs hI => ?_)
  refine lv_iconst (pc := 10) (v := 1) hx hb dX5_behind_10 (by decide) ?_
  refine lv_ishl (pc := 11) hx hb dX5_behind_11 ?_
  refine lv_iload_n (pc := 12) hx hb dX5_behind_12 rfl (lv_at hl 0 rfl) ?_
  refine lv_iload_n (pc := 13) hx hb dX5_behind_13 rfl (lv_at hl 1 rfl) ?_
  refine lv_ixor (pc := 14) hx hb dX5_behind_14 ?_
  refine lv_iconst (pc := 15) (v := 1) hx hb dX5_behind_15 (by decide) ?_
  refine lv_iand (pc := 16) hx hb dX5_behind_16 ?_
  refine lv_ior (pc := 17) hx hb dX5_behind_17 ?_
  obtain rfl := Option.some.inj hf
  exact x_iret X hI dX5_behind_18

abbrev rm_X5_placeOf : Room := { frames := 0, cells := 0, slots := 0, locals := 0 }
set_option maxHeartbeats 4000000 in
set_option maxRecDepth 100000 in
theorem k_X5_placeOf_L10 {p : Program} {l : Launch} {e : Env} {s : State} {m : MethodId} {args : Array Value} {below : List Frame} {meth : Method} {c : Code} {A : Nat → Prop} {G : GX} {a0 : Nat} {a1 : Nat} {a2 : Nat} {l1 : Int32} {v_keys : Nat → Int32} {v_asFound : Nat → Int32} {v_found : Int32} {v_turns : Int32} {v_places : Int32} {K : Int32 → Int32 → Int32 → Option (Int32)} {res : Int32} (X : CX RX5 cX5_placeOf 6 (some .int) p s m args meth c) (E : EX G A s)
    (hK : ∀ (l2 : Int32) (l3 : Int32) (l4 : Int32) (H : Heap) (locs : List Loc) (ls : Array Slot), IN A G (vw G a0 a1 a2 v_keys v_asFound v_found v_turns v_places) s H locs → lv_has ls 6 [(0, .ref a0), (1, .int l1), (2, .int l2), (3, .int l3), (4, .int l4)] → K l2 l3 l4 = some res → W p l e rm_X5_placeOf s m args below meth c H locs 0 0 (MQ below (QX G A (vw G a0 a1 a2 v_keys v_asFound v_found v_turns v_places) (some (.int res))) args s 0 0 A) (F0 m 57 ls [])) :
    ∀ {k : Nat} {l2 : Int32} {l3 : Int32} {l4 : Int32} {H : Heap} {locs : List Loc} {ls : Array Slot}, IN A G (vw G a0 a1 a2 v_keys v_asFound v_found v_turns v_places) s H locs → lv_has ls 6 [(0, .ref a0), (1, .int l1), (2, .int l2), (3, .int l3), (4, .int l4)] → f_X5_placeOf_L10 l1 v_keys K k l2 l3 l4 = some res → W p l e rm_X5_placeOf s m args below meth c H locs 0 0 (MQ below (QX G A (vw G a0 a1 a2 v_keys v_asFound v_found v_turns v_places) (some (.int res))) args s 0 0 A) (F0 m 10 ls []) := by
  obtain ⟨hx, hb, hml, hown, hts, hr, hlk⟩ := id X
  intro k
  induction k with
  | zero => intro l2 l3 l4 H locs ls hI hl hf; exact nomatch (show none = some res from hf)
  | succ k ih =>
    intro l2 l3 l4 H locs ls hI hl hf
    rw [f_X5_placeOf_L10] at hf
    refine lv_iload (pc := 10) hx hb dX5_placeOf_10 (lv_at hl 4 rfl) ?_
    refine lv_bipush (pc := 12) (v := 8) hx hb dX5_placeOf_12 (by decide) ?_
    refine lv_icmp_ge (pc := 14) (tgt := 57) hx hb dX5_placeOf_14 (by decide) (fun c1 => ?_) (fun c1 => ?_)
    · have hf := q_ip c1 hf
      exact hK _ _ _ _ _ _ hI (lv_sub hl [0, 1, 2, 3, 4] rfl) hf
    · have hf := q_in c1 hf
      refine lv_iload_n (pc := 17) hx hb dX5_placeOf_17 rfl (lv_at hl 2 rfl) ?_
      refine lv_iload_n (pc := 18) hx hb dX5_placeOf_18 rfl (lv_at hl 3 rfl) ?_
      refine lv_icmp_ge (pc := 19) (tgt := 57) hx hb dX5_placeOf_19 (by decide) (fun c2 => ?_) (fun c2 => ?_)
      · have hf := q_ip c2 hf
        exact hK _ _ _ _ _ _ hI (lv_sub hl [0, 1, 2, 3, 4] rfl) hf
      · have hf := q_in c2 hf
        refine lv_iload_n (pc := 22) hx hb dX5_placeOf_22 rfl (lv_at hl 2 rfl) ?_
        refine lv_iload_n (pc := 23) hx hb dX5_placeOf_23 rfl (lv_at hl 3 rfl) ?_
        refine lv_iadd (pc := 24) hx hb dX5_placeOf_24 ?_
        refine lv_iconst (pc := 25) (v := 1) hx hb dX5_placeOf_25 (by decide) ?_
        refine lv_ishr (pc := 26) hx hb dX5_placeOf_26 ?_
        refine lv_istore (pc := 27) (lv' := [(5, .int ((l2 + l3) >>> (1 &&& 31))), (0, .ref a0), (1, .int l1), (2, .int l2), (3, .int l3), (4, .int l4)]) hx hb dX5_placeOf_27 hl (by decide) rfl (fun ls hl => ?_)
        refine lv_aload_n (pc := 29) hx hb dX5_placeOf_29 rfl (lv_at hl 1 rfl) ?_
        refine x_get (pc := 30) X E hI inX5 0 rfl rfl 0 (by decide) tw_1_97 rfl dX5_placeOf_30 ?_
        refine lv_iload (pc := 33) hx hb dX5_placeOf_33 (lv_at hl 0 rfl) ?_
        obtain ⟨t3, e3, hf⟩ := q_ob hf
        refine x_iald (pc := 35) X E hI 1 rfl e3 dX5_placeOf_35 ?_
        refine lv_iload_n (pc := 36) hx hb dX5_placeOf_36 rfl (lv_at hl 2 rfl) ?_
        refine lv_icmp_ge (pc := 37) (tgt := 48) hx hb dX5_placeOf_37 (by decide) (fun c4 => ?_) (fun c4 => ?_)
        · have hf := q_ip c4 hf
          refine lv_iload (pc := 48) hx hb dX5_placeOf_48 (lv_at hl 0 rfl) ?_
          refine lv_istore_n (pc := 50) (lv' := [(3, .int ((l2 + l3) >>> (1 &&& 31))), (5, .int ((l2 + l3) >>> (1 &&& 31))), (0, .ref a0), (1, .int l1), (2, .int l2), (4, .int l4)]) hx hb dX5_placeOf_50 rfl hl (by decide) rfl (fun ls hl => ?_)
          refine lv_iinc (pc := 51) (v := l4 + 1) (lv' := [(4, .int (l4 + 1)), (3, .int ((l2 + l3) >>> (1 &&& 31))), (5, .int ((l2 + l3) >>> (1 &&& 31))), (0, .ref a0), (1, .int l1), (2, .int l2)]) hx hb dX5_placeOf_51 hl (k := 5) rfl rfl (by decide) rfl (fun ls hl => ?_)
          refine lv_goto (pc := 54) (tgt := 10) hx hb dX5_placeOf_54 (by decide) ?_
          exact ih hI (lv_sub hl [3, 4, 5, 1, 0] rfl) hf
        · have hf := q_in c4 hf
          refine lv_iload (pc := 40) hx hb dX5_placeOf_40 (lv_at hl 0 rfl) ?_
          refine lv_iconst (pc := 42) (v := 1) hx hb dX5_placeOf_42 (by decide) ?_
          refine lv_iadd (pc := 43) hx hb dX5_placeOf_43 ?_
          refine lv_istore_n (pc := 44) (lv' := [(2, .int (((l2 + l3) >>> (1 &&& 31)) + 1)), (5, .int ((l2 + l3) >>> (1 &&& 31))), (0, .ref a0), (1, .int l1), (3, .int l3), (4, .int l4)]) hx hb dX5_placeOf_44 rfl hl (by decide) rfl (fun ls hl => ?_)
          refine lv_goto (pc := 45) (tgt := 51) hx hb dX5_placeOf_45 (by decide) ?_
          refine lv_iinc (pc := 51) (v := l4 + 1) (lv' := [(4, .int (l4 + 1)), (2, .int (((l2 + l3) >>> (1 &&& 31)) + 1)), (5, .int ((l2 + l3) >>> (1 &&& 31))), (0, .ref a0), (1, .int l1), (3, .int l3)]) hx hb dX5_placeOf_51 hl (k := 5) rfl rfl (by decide) rfl (fun ls hl => ?_)
          refine lv_goto (pc := 54) (tgt := 10) hx hb dX5_placeOf_54 (by decide) ?_
          exact ih hI (lv_sub hl [3, 4, 1, 5, 0] rfl) hf

set_option maxHeartbeats 4000000 in
set_option maxRecDepth 100000 in
theorem c_X5_placeOf (l : Launch) (G : GX) (a0 : Nat) (a1 : Nat) (a2 : Nat) {l1 : Int32} {v_keys : Nat → Int32} {v_found : Int32} {v_asFound : Nat → Int32} {v_turns : Int32} {v_places : Int32} {res : Int32} (hf : f_X5_placeOf l1 v_keys v_found = some res) : MX l yX5_placeOf cX5_placeOf 6 (some .int) rm_X5_placeOf G (vw G a0 a1 a2 v_keys v_asFound v_found v_turns v_places) [.ref (a0), .int l1] (vw G a0 a1 a2 v_keys v_asFound v_found v_turns v_places) (some (.int res)) 0 0 := by
  refine MX.of (plainFor_of_name (by decide)) (Nat.le_of_ble_eq_true rfl) ?_
  intro p e s m below meth c A X E hI ls hl
  obtain ⟨hx, hb, hml, hown, hts, hr, hlk⟩ := id X
  have hl : lv_has ls 6 [(0, .ref a0), (1, .int l1)] := hl
  unfold f_X5_placeOf at hf
  refine lv_iconst (pc := 0) (v := 0) hx hb dX5_placeOf_0 (by decide) ?_
  refine lv_istore_n (pc := 1) (lv' := [(2, .int 0), (0, .ref a0), (1, .int l1)]) hx hb dX5_placeOf_1 rfl hl (by decide) rfl (fun ls hl => ?_)
  refine lv_aload_n (pc := 2) hx hb dX5_placeOf_2 rfl (lv_at hl 1 rfl) ?_
  refine x_get (pc := 3) X E hI inX5 0 rfl rfl 2 (by decide) tw_1_102 rfl dX5_placeOf_3 ?_
  refine lv_istore_n (pc := 6) (lv' := [(3, .int v_found), (2, .int 0), (0, .ref a0), (1, .int l1)]) hx hb dX5_placeOf_6 rfl hl (by decide) rfl (fun ls hl => ?_)
  refine lv_iconst (pc := 7) (v := 0) hx hb dX5_placeOf_7 (by decide) ?_
  refine lv_istore (pc := 8) (lv' := [(4, .int 0), (3, .int v_found), (2, .int 0), (0, .ref a0), (1, .int l1)]) hx hb dX5_placeOf_8 hl (by decide) rfl (fun ls hl => ?_)
  refine k_X5_placeOf_L10 X E (fun l2_1 l3_1 l4_1 H locs ls hI hl hf => ?_) hI (lv_sub hl [3, 4, 2, 1, 0] rfl) hf
  refine lv_iload_n (pc := 57) hx hb dX5_placeOf_57 rfl (lv_at hl 2 rfl) ?_
  obtain rfl := Option.some.inj hf
  exact x_iret X hI dX5_placeOf_58

abbrev rm_X5_admit : Room := { frames := 1, cells := 0, slots := 0, locals := 40 }
set_option maxHeartbeats 4000000 in
set_option maxRecDepth 100000 in
theorem c_X5_admit (l : Launch) (G : GX) (a0 : Nat) (a1 : Nat) (a2 : Nat) {l1 : Int32} {v_keys : Nat → Int32} {v_asFound : Nat → Int32} {v_found : Int32} {v_turns : Int32} {v_places : Int32} {res : Int32 × (Nat → Int32) × (Nat → Int32) × Int32 × Int32} (hf : f_X5_admit l1 v_keys v_asFound v_found v_turns = some res) : MX l yX5_admit cX5_admit 3 (some .boolean) rm_X5_admit G (vw G a0 a1 a2 v_keys v_asFound v_found v_turns v_places) [.ref (a0), .int l1] (vw G a0 a1 a2 res.2.1 res.2.2.1 res.2.2.2.1 res.2.2.2.2 v_places) (some (.int res.1)) 0 0 := by
  refine MX.of (plainFor_of_name (by decide)) (Nat.le_of_ble_eq_true rfl) ?_
  intro p e s m below meth c A X E hI ls hl
  obtain ⟨hx, hb, hml, hown, hts, hr, hlk⟩ := id X
  have hl : lv_has ls 3 [(0, .ref a0), (1, .int l1)] := hl
  unfold f_X5_admit at hf
  refine lv_aload_n (pc := 0) hx hb dX5_admit_0 rfl (lv_at hl 0 rfl) ?_
  refine lv_iload_n (pc := 1) hx hb dX5_admit_1 rfl (lv_at hl 1 rfl) ?_
  obtain ⟨t1, e1, hf⟩ := q_ob hf
  refine x_cVs (pc := 2) (st1 := [.int t1]) (w1 := (vw G a0 a1 a2 v_keys v_asFound v_found v_turns v_places)) X E hI (c_X5_placeOf l G a0 a1 a2 e1) kv_X5_49 hd_X5_placeOf ⟨rfl, rfl⟩ (by decide) 0 rfl rfl rfl rfl hl.1 rfl (Nat.le_of_ble_eq_true rfl) dX5_admit_2 ⟨Nat.le_of_ble_eq_true rfl, Nat.le_of_ble_eq_true rfl⟩ rfl (fun H locs hI => ?_)
  refine lv_istore_n (pc := 5) (lv' := [(2, .int t1), (0, .ref a0), (1, .int l1)]) hx hb dX5_admit_5 rfl hl (by decide) rfl (fun ls hl => ?_)
  refine lv_iload_n (pc := 6) hx hb dX5_admit_6 rfl (lv_at hl 0 rfl) ?_
  refine lv_aload_n (pc := 7) hx hb dX5_admit_7 rfl (lv_at hl 1 rfl) ?_
  refine x_get (pc := 8) X E hI inX5 0 rfl rfl 2 (by decide) tw_1_102 rfl dX5_admit_8 ?_
  refine lv_icmp_ge (pc := 11) (tgt := 26) hx hb dX5_admit_11 (by decide) (fun c2 => ?_) (fun c2 => ?_)
  · have hf := q_ip c2 hf
    refine lv_aload_n (pc := 26) hx hb dX5_admit_26 rfl (lv_at hl 1 rfl) ?_
    refine x_get (pc := 27) X E hI inX5 0 rfl rfl 2 (by decide) tw_1_102 rfl dX5_admit_27 ?_
    refine lv_bipush (pc := 30) (v := 120) hx hb dX5_admit_30 (by decide) ?_
    refine lv_icmp_lt (pc := 32) (tgt := 37) hx hb dX5_admit_32 (by decide) (fun c3 => ?_) (fun c3 => ?_)
    · have hf := q_ip c3 hf
      refine lv_aload_n (pc := 37) hx hb dX5_admit_37 rfl (lv_at hl 1 rfl) ?_
      refine x_get (pc := 38) X E hI inX5 0 rfl rfl 0 (by decide) tw_1_97 rfl dX5_admit_38 ?_
      refine lv_iload_n (pc := 41) hx hb dX5_admit_41 rfl (lv_at hl 0 rfl) ?_
      refine lv_aload_n (pc := 42) hx hb dX5_admit_42 rfl (lv_at hl 1 rfl) ?_
      refine x_get (pc := 43) X E hI inX5 0 rfl rfl 0 (by decide) tw_1_97 rfl dX5_admit_43 ?_
      refine lv_iload_n (pc := 46) hx hb dX5_admit_46 rfl (lv_at hl 0 rfl) ?_
      refine lv_iconst (pc := 47) (v := 1) hx hb dX5_admit_47 (by decide) ?_
      refine lv_iadd (pc := 48) hx hb dX5_admit_48 ?_
      refine lv_aload_n (pc := 49) hx hb dX5_admit_49 rfl (lv_at hl 1 rfl) ?_
      refine x_get (pc := 50) X E hI inX5 0 rfl rfl 2 (by decide) tw_1_102 rfl dX5_admit_50 ?_
      refine lv_iload_n (pc := 53) hx hb dX5_admit_53 rfl (lv_at hl 0 rfl) ?_
      refine lv_isub (pc := 54) hx hb dX5_admit_54 ?_
      obtain ⟨t4, e4, hf⟩ := q_ob hf
      refine x_copyi (pc := 55) (w' := (vw G a0 a1 a2 t4 v_asFound v_found v_turns v_places)) X E hI tw_2_4 1 1 rfl rfl e4 rfl (by decide) (Nat.le_of_ble_eq_true rfl) hl.1 dX5_admit_55 (fun H locs hI => ?_)
      refine lv_aload_n (pc := 58) hx hb dX5_admit_58 rfl (lv_at hl 1 rfl) ?_
      refine x_get (pc := 59) X E hI inX5 0 rfl rfl 0 (by decide) tw_1_97 rfl dX5_admit_59 ?_
      refine lv_iload_n (pc := 62) hx hb dX5_admit_62 rfl (lv_at hl 0 rfl) ?_
      refine lv_iload_n (pc := 63) hx hb dX5_admit_63 rfl (lv_at hl 2 rfl) ?_
      obtain ⟨t5, e5, hf⟩ := q_ob hf
      refine x_iast (pc := 64) (w' := (vw G a0 a1 a2 t5 v_asFound v_found v_turns v_places)) X E hI 1 rfl e5 rfl dX5_admit_64 (fun H locs hI => ?_)
      refine lv_aload_n (pc := 65) hx hb dX5_admit_65 rfl (lv_at hl 1 rfl) ?_
      refine x_get (pc := 66) X E hI inX5 0 rfl rfl 1 (by decide) tw_1_100 rfl dX5_admit_66 ?_
      refine lv_aload_n (pc := 69) hx hb dX5_admit_69 rfl (lv_at hl 1 rfl) ?_
      refine x_get (pc := 70) X E hI inX5 0 rfl rfl 2 (by decide) tw_1_102 rfl dX5_admit_70 ?_
      refine lv_iload_n (pc := 73) hx hb dX5_admit_73 rfl (lv_at hl 2 rfl) ?_
      obtain ⟨t6, e6, hf⟩ := q_ob hf
      refine x_iast (pc := 74) (w' := (vw G a0 a1 a2 t5 t6 v_found v_turns v_places)) X E hI 2 rfl e6 rfl dX5_admit_74 (fun H locs hI => ?_)
      refine lv_aload_n (pc := 75) hx hb dX5_admit_75 rfl (lv_at hl 1 rfl) ?_
      refine lv_dup (pc := 76) hx hb dX5_admit_76 rfl ?_
      refine x_get (pc := 77) X E hI inX5 0 rfl rfl 2 (by decide) tw_1_102 rfl dX5_admit_77 ?_
      refine lv_iconst (pc := 80) (v := 1) hx hb dX5_admit_80 (by decide) ?_
      refine lv_iadd (pc := 81) hx hb dX5_admit_81 ?_
      refine x_put (pc := 82) (w' := (vw G a0 a1 a2 t5 t6 (v_found + 1) v_turns v_places)) X E hI inX5 tyX5 tyX5_ok nmX5 0 rfl rfl 2 (by decide) tw_1_102 rfl rfl rfl (Nat.le_of_ble_eq_true rfl) rfl dX5_admit_82 (fun H locs hI => ?_)
      refine lv_aload_n (pc := 85) hx hb dX5_admit_85 rfl (lv_at hl 1 rfl) ?_
      refine lv_dup (pc := 86) hx hb dX5_admit_86 rfl ?_
      refine x_get (pc := 87) X E hI inX5 0 rfl rfl 3 (by decide) tw_1_104 rfl dX5_admit_87 ?_
      refine lv_iconst (pc := 90) (v := 1) hx hb dX5_admit_90 (by decide) ?_
      refine lv_iload_n (pc := 91) hx hb dX5_admit_91 rfl (lv_at hl 2 rfl) ?_
      refine lv_iconst (pc := 92) (v := 1) hx hb dX5_admit_92 (by decide) ?_
      refine lv_iand (pc := 93) hx hb dX5_admit_93 ?_
      refine lv_isub (pc := 94) hx hb dX5_admit_94 ?_
      refine lv_iadd (pc := 95) hx hb dX5_admit_95 ?_
      refine x_put (pc := 96) (w' := (vw G a0 a1 a2 t5 t6 (v_found + 1) (v_turns + (1 - (l1 &&& 1))) v_places)) X E hI inX5 tyX5 tyX5_ok nmX5 0 rfl rfl 3 (by decide) tw_1_104 rfl rfl rfl (Nat.le_of_ble_eq_true rfl) rfl dX5_admit_96 (fun H locs hI => ?_)
      refine lv_iconst (pc := 99) (v := 1) hx hb dX5_admit_99 (by decide) ?_
      obtain rfl := Option.some.inj hf
      exact x_zret X hI (Or.inr rfl) dX5_admit_100
    · have hf := q_in c3 hf
      refine lv_iconst (pc := 35) (v := 0) hx hb dX5_admit_35 (by decide) ?_
      obtain rfl := Option.some.inj hf
      exact x_zret X hI (Or.inl rfl) dX5_admit_36
  · have hf := q_in c2 hf
    refine lv_aload_n (pc := 14) hx hb dX5_admit_14 rfl (lv_at hl 1 rfl) ?_
    refine x_get (pc := 15) X E hI inX5 0 rfl rfl 0 (by decide) tw_1_97 rfl dX5_admit_15 ?_
    refine lv_iload_n (pc := 18) hx hb dX5_admit_18 rfl (lv_at hl 0 rfl) ?_
    obtain ⟨t7, e7, hf⟩ := q_ob hf
    refine x_iald (pc := 19) X E hI 1 rfl e7 dX5_admit_19 ?_
    refine lv_iload_n (pc := 20) hx hb dX5_admit_20 rfl (lv_at hl 2 rfl) ?_
    refine lv_icmp_ne (pc := 21) (tgt := 26) hx hb dX5_admit_21 (by decide) (fun c8 => ?_) (fun c8 => ?_)
    · have hf := q_in c8 hf
      refine lv_aload_n (pc := 26) hx hb dX5_admit_26 rfl (lv_at hl 1 rfl) ?_
      refine x_get (pc := 27) X E hI inX5 0 rfl rfl 2 (by decide) tw_1_102 rfl dX5_admit_27 ?_
      refine lv_bipush (pc := 30) (v := 120) hx hb dX5_admit_30 (by decide) ?_
      refine lv_icmp_lt (pc := 32) (tgt := 37) hx hb dX5_admit_32 (by decide) (fun c9 => ?_) (fun c9 => ?_)
      · have hf := q_ip c9 hf
        refine lv_aload_n (pc := 37) hx hb dX5_admit_37 rfl (lv_at hl 1 rfl) ?_
        refine x_get (pc := 38) X E hI inX5 0 rfl rfl 0 (by decide) tw_1_97 rfl dX5_admit_38 ?_
        refine lv_iload_n (pc := 41) hx hb dX5_admit_41 rfl (lv_at hl 0 rfl) ?_
        refine lv_aload_n (pc := 42) hx hb dX5_admit_42 rfl (lv_at hl 1 rfl) ?_
        refine x_get (pc := 43) X E hI inX5 0 rfl rfl 0 (by decide) tw_1_97 rfl dX5_admit_43 ?_
        refine lv_iload_n (pc := 46) hx hb dX5_admit_46 rfl (lv_at hl 0 rfl) ?_
        refine lv_iconst (pc := 47) (v := 1) hx hb dX5_admit_47 (by decide) ?_
        refine lv_iadd (pc := 48) hx hb dX5_admit_48 ?_
        refine lv_aload_n (pc := 49) hx hb dX5_admit_49 rfl (lv_at hl 1 rfl) ?_
        refine x_get (pc := 50) X E hI inX5 0 rfl rfl 2 (by decide) tw_1_102 rfl dX5_admit_50 ?_
        refine lv_iload_n (pc := 53) hx hb dX5_admit_53 rfl (lv_at hl 0 rfl) ?_
        refine lv_isub (pc := 54) hx hb dX5_admit_54 ?_
        obtain ⟨t10, e10, hf⟩ := q_ob hf
        refine x_copyi (pc := 55) (w' := (vw G a0 a1 a2 t10 v_asFound v_found v_turns v_places)) X E hI tw_2_4 1 1 rfl rfl e10 rfl (by decide) (Nat.le_of_ble_eq_true rfl) hl.1 dX5_admit_55 (fun H locs hI => ?_)
        refine lv_aload_n (pc := 58) hx hb dX5_admit_58 rfl (lv_at hl 1 rfl) ?_
        refine x_get (pc := 59) X E hI inX5 0 rfl rfl 0 (by decide) tw_1_97 rfl dX5_admit_59 ?_
        refine lv_iload_n (pc := 62) hx hb dX5_admit_62 rfl (lv_at hl 0 rfl) ?_
        refine lv_iload_n (pc := 63) hx hb dX5_admit_63 rfl (lv_at hl 2 rfl) ?_
        obtain ⟨t11, e11, hf⟩ := q_ob hf
        refine x_iast (pc := 64) (w' := (vw G a0 a1 a2 t11 v_asFound v_found v_turns v_places)) X E hI 1 rfl e11 rfl dX5_admit_64 (fun H locs hI => ?_)
        refine lv_aload_n (pc := 65) hx hb dX5_admit_65 rfl (lv_at hl 1 rfl) ?_
        refine x_get (pc := 66) X E hI inX5 0 rfl rfl 1 (by decide) tw_1_100 rfl dX5_admit_66 ?_
        refine lv_aload_n (pc := 69) hx hb dX5_admit_69 rfl (lv_at hl 1 rfl) ?_
        refine x_get (pc := 70) X E hI inX5 0 rfl rfl 2 (by decide) tw_1_102 rfl dX5_admit_70 ?_
        refine lv_iload_n (pc := 73) hx hb dX5_admit_73 rfl (lv_at hl 2 rfl) ?_
        obtain ⟨t12, e12, hf⟩ := q_ob hf
        refine x_iast (pc := 74) (w' := (vw G a0 a1 a2 t11 t12 v_found v_turns v_places)) X E hI 2 rfl e12 rfl dX5_admit_74 (fun H locs hI => ?_)
        refine lv_aload_n (pc := 75) hx hb dX5_admit_75 rfl (lv_at hl 1 rfl) ?_
        refine lv_dup (pc := 76) hx hb dX5_admit_76 rfl ?_
        refine x_get (pc := 77) X E hI inX5 0 rfl rfl 2 (by decide) tw_1_102 rfl dX5_admit_77 ?_
        refine lv_iconst (pc := 80) (v := 1) hx hb dX5_admit_80 (by decide) ?_
        refine lv_iadd (pc := 81) hx hb dX5_admit_81 ?_
        refine x_put (pc := 82) (w' := (vw G a0 a1 a2 t11 t12 (v_found + 1) v_turns v_places)) X E hI inX5 tyX5 tyX5_ok nmX5 0 rfl rfl 2 (by decide) tw_1_102 rfl rfl rfl (Nat.le_of_ble_eq_true rfl) rfl dX5_admit_82 (fun H locs hI => ?_)
        refine lv_aload_n (pc := 85) hx hb dX5_admit_85 rfl (lv_at hl 1 rfl) ?_
        refine lv_dup (pc := 86) hx hb dX5_admit_86 rfl ?_
        refine x_get (pc := 87) X E hI inX5 0 rfl rfl 3 (by decide) tw_1_104 rfl dX5_admit_87 ?_
        refine lv_iconst (pc := 90) (v := 1) hx hb dX5_admit_90 (by decide) ?_
        refine lv_iload_n (pc := 91) hx hb dX5_admit_91 rfl (lv_at hl 2 rfl) ?_
        refine lv_iconst (pc := 92) (v := 1) hx hb dX5_admit_92 (by decide) ?_
        refine lv_iand (pc := 93) hx hb dX5_admit_93 ?_
        refine lv_isub (pc := 94) hx hb dX5_admit_94 ?_
        refine lv_iadd (pc := 95) hx hb dX5_admit_95 ?_
        refine x_put (pc := 96) (w' := (vw G a0 a1 a2 t11 t12 (v_found + 1) (v_turns + (1 - (l1 &&& 1))) v_places)) X E hI inX5 tyX5 tyX5_ok nmX5 0 rfl rfl 3 (by decide) tw_1_104 rfl rfl rfl (Nat.le_of_ble_eq_true rfl) rfl dX5_admit_96 (fun H locs hI => ?_)
        refine lv_iconst (pc := 99) (v := 1) hx hb dX5_admit_99 (by decide) ?_
        obtain rfl := Option.some.inj hf
        exact x_zret X hI (Or.inr rfl) dX5_admit_100
      · have hf := q_in c9 hf
        refine lv_iconst (pc := 35) (v := 0) hx hb dX5_admit_35 (by decide) ?_
        obtain rfl := Option.some.inj hf
        exact x_zret X hI (Or.inl rfl) dX5_admit_36
    · have hf := q_ip c8 hf
      refine lv_iconst (pc := 24) (v := 1) hx hb dX5_admit_24 (by decide) ?_
      obtain rfl := Option.some.inj hf
      exact x_zret X hI (Or.inr rfl) dX5_admit_25

abbrev rm_X5_howManyBy : Room := { frames := 0, cells := 0, slots := 0, locals := 0 }
set_option maxHeartbeats 4000000 in
set_option maxRecDepth 100000 in
theorem c_X5_howManyBy (l : Launch) (G : GX) (a0 : Nat) (a1 : Nat) (a2 : Nat) {l1 : Int32} {v_found : Int32} {v_turns : Int32} {v_keys : Nat → Int32} {v_asFound : Nat → Int32} {v_places : Int32} {res : Int32} (hf : f_X5_howManyBy l1 v_found v_turns = some res) : MX l yX5_howManyBy cX5_howManyBy 2 (some .int) rm_X5_howManyBy G (vw G a0 a1 a2 v_keys v_asFound v_found v_turns v_places) [.ref (a0), .int l1] (vw G a0 a1 a2 v_keys v_asFound v_found v_turns v_places) (some (.int res)) 0 0 := by
  refine MX.of (plainFor_of_name (by decide)) (Nat.le_of_ble_eq_true rfl) ?_
  intro p e s m below meth c A X E hI ls hl
  obtain ⟨hx, hb, hml, hown, hts, hr, hlk⟩ := id X
  have hl : lv_has ls 2 [(0, .ref a0), (1, .int l1)] := hl
  unfold f_X5_howManyBy at hf
  refine lv_iload_n (pc := 0) hx hb dX5_howManyBy_0 rfl (lv_at hl 1 rfl) ?_
  refine lv_if_ne (pc := 1) (tgt := 11) hx hb dX5_howManyBy_1 (by decide) (fun c1 => ?_) (fun c1 => ?_)
  · have hf := q_in c1 hf
    refine lv_aload_n (pc := 11) hx hb dX5_howManyBy_11 rfl (lv_at hl 0 rfl) ?_
    refine x_get (pc := 12) X E hI inX5 0 rfl rfl 2 (by decide) tw_1_102 rfl dX5_howManyBy_12 ?_
    obtain rfl := Option.some.inj hf
    exact x_iret X hI dX5_howManyBy_15
  · have hf := q_ip c1 hf
    refine lv_aload_n (pc := 4) hx hb dX5_howManyBy_4 rfl (lv_at hl 0 rfl) ?_
    refine x_get (pc := 5) X E hI inX5 0 rfl rfl 3 (by decide) tw_1_104 rfl dX5_howManyBy_5 ?_
    refine lv_goto (pc := 8) (tgt := 15) hx hb dX5_howManyBy_8 (by decide) ?_
    obtain rfl := Option.some.inj hf
    exact x_iret X hI dX5_howManyBy_15

abbrev rm_X5_leastMade : Room := { frames := 2, cells := 0, slots := 0, locals := 45 }
set_option maxHeartbeats 4000000 in
set_option maxRecDepth 100000 in
theorem k_X5_leastMade_L6 {p : Program} {l : Launch} {e : Env} {s : State} {m : MethodId} {args : Array Value} {below : List Frame} {meth : Method} {c : Code} {A : Nat → Prop} {G : GX} {a0 : Nat} {a1 : Nat} {a2 : Nat} {l1 : Int32} {l2 : Int32} {l3 : Int32} {v_keys : Nat → Int32} {v_asFound : Nat → Int32} {v_found : Int32} {v_turns : Int32} {v_places : Int32} {K : Int32 → Int32 → Option (Int32)} {res : Int32} (X : CX RX5 cX5_leastMade 8 (some .int) p s m args meth c) (E : EX G A s)
    (hK : ∀ (l4 : Int32) (l5 : Int32) (H : Heap) (locs : List Loc) (ls : Array Slot), IN A G (vw G a0 a1 a2 v_keys v_asFound v_found v_turns v_places) s H locs → lv_has ls 8 [(0, .ref a0), (1, .int l1), (2, .int l2), (3, .int l3), (4, .int l4), (5, .int l5)] → K l4 l5 = some res → W p l e rm_X5_leastMade s m args below meth c H locs 0 0 (MQ below (QX G A (vw G a0 a1 a2 v_keys v_asFound v_found v_turns v_places) (some (.int res))) args s 0 0 A) (F0 m 84 ls [])) :
    ∀ {k : Nat} {l4 : Int32} {l5 : Int32} {H : Heap} {locs : List Loc} {ls : Array Slot}, IN A G (vw G a0 a1 a2 v_keys v_asFound v_found v_turns v_places) s H locs → lv_has ls 8 [(0, .ref a0), (1, .int l1), (2, .int l2), (3, .int l3), (4, .int l4), (5, .int l5)] → f_X5_leastMade_L6 l1 l2 l3 v_keys v_found v_places K k l4 l5 = some res → W p l e rm_X5_leastMade s m args below meth c H locs 0 0 (MQ below (QX G A (vw G a0 a1 a2 v_keys v_asFound v_found v_turns v_places) (some (.int res))) args s 0 0 A) (F0 m 6 ls []) := by
  obtain ⟨hx, hb, hml, hown, hts, hr, hlk⟩ := id X
  intro k
  induction k with
  | zero => intro l4 l5 H locs ls hI hl hf; exact nomatch (show none = some res from hf)
  | succ k ih =>
    intro l4 l5 H locs ls hI hl hf
    rw [f_X5_leastMade_L6] at hf
    refine lv_iload (pc := 6) hx hb dX5_leastMade_6 (lv_at hl 5 rfl) ?_
    refine lv_aload_n (pc := 8) hx hb dX5_leastMade_8 rfl (lv_at hl 0 rfl) ?_
    refine x_get (pc := 9) X E hI inX5 0 rfl rfl 2 (by decide) tw_1_102 rfl dX5_leastMade_9 ?_
    refine lv_icmp_ge (pc := 12) (tgt := 84) hx hb dX5_leastMade_12 (by decide) (fun c1 => ?_) (fun c1 => ?_)
    · have hf := q_ip c1 hf
      exact hK _ _ _ _ _ hI (lv_sub hl [0, 1, 2, 3, 4, 5] rfl) hf
    · have hf := q_in c1 hf
      refine lv_aload_n (pc := 15) hx hb dX5_leastMade_15 rfl (lv_at hl 0 rfl) ?_
      refine x_get (pc := 16) X E hI inX5 0 rfl rfl 0 (by decide) tw_1_97 rfl dX5_leastMade_16 ?_
      refine lv_iload (pc := 19) hx hb dX5_leastMade_19 (lv_at hl 5 rfl) ?_
      obtain ⟨t2, e2, hf⟩ := q_ob hf
      refine x_iald (pc := 21) X E hI 1 rfl e2 dX5_leastMade_21 ?_
      refine lv_iconst (pc := 22) (v := 1) hx hb dX5_leastMade_22 (by decide) ?_
      refine lv_iand (pc := 23) hx hb dX5_leastMade_23 ?_
      refine lv_istore (pc := 24) (lv' := [(6, .int (t2 &&& 1)), (0, .ref a0), (1, .int l1), (2, .int l2), (3, .int l3), (4, .int l4), (5, .int l5)]) hx hb dX5_leastMade_24 hl (by decide) rfl (fun ls hl => ?_)
      refine lv_iload (pc := 26) hx hb dX5_leastMade_26 (lv_at hl 0 rfl) ?_
      refine lv_iload_n (pc := 28) hx hb dX5_leastMade_28 rfl (lv_at hl 3 rfl) ?_
      refine lv_icmp_lt (pc := 29) (tgt := 78) hx hb dX5_leastMade_29 (by decide) (fun c3 => ?_) (fun c3 => ?_)
      · have hf := q_ip c3 hf
        refine lv_iinc (pc := 78) (v := l5 + 1) (lv' := [(5, .int (l5 + 1)), (6, .int (t2 &&& 1)), (0, .ref a0), (1, .int l1), (2, .int l2), (3, .int l3), (4, .int l4)]) hx hb dX5_leastMade_78 hl (k := 6) rfl rfl (by decide) rfl (fun ls hl => ?_)
        refine lv_goto (pc := 81) (tgt := 6) hx hb dX5_leastMade_81 (by decide) ?_
        exact ih hI (lv_sub hl [2, 3, 4, 5, 6, 0] rfl) hf
      · have hf := q_in c3 hf
        refine lv_iload (pc := 32) hx hb dX5_leastMade_32 (lv_at hl 0 rfl) ?_
        refine lv_iload_n (pc := 34) hx hb dX5_leastMade_34 rfl (lv_at hl 4 rfl) ?_
        refine lv_icmp_gt (pc := 35) (tgt := 78) hx hb dX5_leastMade_35 (by decide) (fun c4 => ?_) (fun c4 => ?_)
        · have hf := q_ip c4 hf
          refine lv_iinc (pc := 78) (v := l5 + 1) (lv' := [(5, .int (l5 + 1)), (6, .int (t2 &&& 1)), (0, .ref a0), (1, .int l1), (2, .int l2), (3, .int l3), (4, .int l4)]) hx hb dX5_leastMade_78 hl (k := 6) rfl rfl (by decide) rfl (fun ls hl => ?_)
          refine lv_goto (pc := 81) (tgt := 6) hx hb dX5_leastMade_81 (by decide) ?_
          exact ih hI (lv_sub hl [2, 3, 4, 5, 6, 0] rfl) hf
        · have hf := q_in c4 hf
          refine lv_iload_n (pc := 38) hx hb dX5_leastMade_38 rfl (lv_at hl 2 rfl) ?_
          refine lv_aload_n (pc := 39) hx hb dX5_leastMade_39 rfl (lv_at hl 1 rfl) ?_
          refine x_get (pc := 40) X E hI inX5 0 rfl rfl 0 (by decide) tw_1_97 rfl dX5_leastMade_40 ?_
          refine lv_iload (pc := 43) hx hb dX5_leastMade_43 (lv_at hl 6 rfl) ?_
          obtain ⟨t5, e5, hf⟩ := q_ob hf
          refine x_iald (pc := 45) X E hI 1 rfl e5 dX5_leastMade_45 ?_
          refine lv_iconst (pc := 46) (v := 1) hx hb dX5_leastMade_46 (by decide) ?_
          refine lv_ishr (pc := 47) hx hb dX5_leastMade_47 ?_
          refine lv_aload_n (pc := 48) hx hb dX5_leastMade_48 rfl (lv_at hl 1 rfl) ?_
          refine x_get (pc := 49) X E hI inX5 0 rfl rfl 4 (by decide) tw_1_108 rfl dX5_leastMade_49 ?_
          obtain ⟨t6, e6, hf⟩ := q_ob hf
          refine x_cSn (pc := 52) (st1 := [.int t6]) X E hI (c_X2_moved l G e6) ks_X5_18 hd_X2_moved ⟨rfl, rfl⟩ (by decide) rfl hl.1 rfl (Nat.le_of_ble_eq_true rfl) dX5_leastMade_52 ⟨Nat.le_of_ble_eq_true rfl, Nat.le_of_ble_eq_true rfl⟩ rfl (fun H locs hI => ?_)
          refine lv_istore (pc := 55) (lv' := [(7, .int t6), (6, .int (t2 &&& 1)), (0, .ref a0), (1, .int l1), (2, .int l2), (3, .int l3), (4, .int l4), (5, .int l5)]) hx hb dX5_leastMade_55 hl (by decide) rfl (fun ls hl => ?_)
          refine lv_iload (pc := 57) hx hb dX5_leastMade_57 (lv_at hl 6 rfl) ?_
          refine lv_if_lt (pc := 59) (tgt := 69) hx hb dX5_leastMade_59 (by decide) (fun c7 => ?_) (fun c7 => ?_)
          · have hf := q_ip c7 hf
            refine lv_iload (pc := 69) hx hb dX5_leastMade_69 (lv_at hl 0 rfl) ?_
            refine lv_goto (pc := 71) (tgt := 76) hx hb dX5_leastMade_71 (by decide) ?_
            refine lv_istore (pc := 76) (lv' := [(4, .int t6), (7, .int t6), (6, .int (t2 &&& 1)), (0, .ref a0), (1, .int l1), (2, .int l2), (3, .int l3), (5, .int l5)]) hx hb dX5_leastMade_76 hl (by decide) rfl (fun ls hl => ?_)
            refine lv_iinc (pc := 78) (v := l5 + 1) (lv' := [(5, .int (l5 + 1)), (4, .int t6), (7, .int t6), (6, .int (t2 &&& 1)), (0, .ref a0), (1, .int l1), (2, .int l2), (3, .int l3)]) hx hb dX5_leastMade_78 hl (k := 7) rfl rfl (by decide) rfl (fun ls hl => ?_)
            refine lv_goto (pc := 81) (tgt := 6) hx hb dX5_leastMade_81 (by decide) ?_
            exact ih hI (lv_sub hl [4, 5, 6, 7, 1, 0] rfl) hf
          · have hf := q_in c7 hf
            refine lv_iload (pc := 62) hx hb dX5_leastMade_62 (lv_at hl 0 rfl) ?_
            refine lv_iload (pc := 64) hx hb dX5_leastMade_64 (lv_at hl 6 rfl) ?_
            refine lv_icmp_ge (pc := 66) (tgt := 74) hx hb dX5_leastMade_66 (by decide) (fun c8 => ?_) (fun c8 => ?_)
            · have hf := q_ip c8 hf
              refine lv_iload (pc := 74) hx hb dX5_leastMade_74 (lv_at hl 6 rfl) ?_
              refine lv_istore (pc := 76) (lv' := [(4, .int l4), (7, .int t6), (6, .int (t2 &&& 1)), (0, .ref a0), (1, .int l1), (2, .int l2), (3, .int l3), (5, .int l5)]) hx hb dX5_leastMade_76 hl (by decide) rfl (fun ls hl => ?_)
              refine lv_iinc (pc := 78) (v := l5 + 1) (lv' := [(5, .int (l5 + 1)), (4, .int l4), (7, .int t6), (6, .int (t2 &&& 1)), (0, .ref a0), (1, .int l1), (2, .int l2), (3, .int l3)]) hx hb dX5_leastMade_78 hl (k := 7) rfl rfl (by decide) rfl (fun ls hl => ?_)
              refine lv_goto (pc := 81) (tgt := 6) hx hb dX5_leastMade_81 (by decide) ?_
              exact ih hI (lv_sub hl [4, 5, 6, 7, 1, 0] rfl) hf
            · have hf := q_in c8 hf
              refine lv_iload (pc := 69) hx hb dX5_leastMade_69 (lv_at hl 0 rfl) ?_
              refine lv_goto (pc := 71) (tgt := 76) hx hb dX5_leastMade_71 (by decide) ?_
              refine lv_istore (pc := 76) (lv' := [(4, .int t6), (7, .int t6), (6, .int (t2 &&& 1)), (0, .ref a0), (1, .int l1), (2, .int l2), (3, .int l3), (5, .int l5)]) hx hb dX5_leastMade_76 hl (by decide) rfl (fun ls hl => ?_)
              refine lv_iinc (pc := 78) (v := l5 + 1) (lv' := [(5, .int (l5 + 1)), (4, .int t6), (7, .int t6), (6, .int (t2 &&& 1)), (0, .ref a0), (1, .int l1), (2, .int l2), (3, .int l3)]) hx hb dX5_leastMade_78 hl (k := 7) rfl rfl (by decide) rfl (fun ls hl => ?_)
              refine lv_goto (pc := 81) (tgt := 6) hx hb dX5_leastMade_81 (by decide) ?_
              exact ih hI (lv_sub hl [4, 5, 6, 7, 1, 0] rfl) hf

set_option maxHeartbeats 4000000 in
set_option maxRecDepth 100000 in
theorem c_X5_leastMade (l : Launch) (G : GX) (a0 : Nat) (a1 : Nat) (a2 : Nat) {l1 : Int32} {l2 : Int32} {l3 : Int32} {v_keys : Nat → Int32} {v_found : Int32} {v_places : Int32} {v_asFound : Nat → Int32} {v_turns : Int32} {res : Int32} (hf : f_X5_leastMade l1 l2 l3 v_keys v_found v_places = some res) : MX l yX5_leastMade cX5_leastMade 8 (some .int) rm_X5_leastMade G (vw G a0 a1 a2 v_keys v_asFound v_found v_turns v_places) [.ref (a0), .int l1, .int l2, .int l3] (vw G a0 a1 a2 v_keys v_asFound v_found v_turns v_places) (some (.int res)) 0 0 := by
  refine MX.of (plainFor_of_name (by decide)) (Nat.le_of_ble_eq_true rfl) ?_
  intro p e s m below meth c A X E hI ls hl
  obtain ⟨hx, hb, hml, hown, hts, hr, hlk⟩ := id X
  have hl : lv_has ls 8 [(0, .ref a0), (1, .int l1), (2, .int l2), (3, .int l3)] := hl
  unfold f_X5_leastMade at hf
  refine lv_iconst (pc := 0) (v := (-1)) hx hb dX5_leastMade_0 (by decide) ?_
  refine lv_istore (pc := 1) (lv' := [(4, .int ((-1))), (0, .ref a0), (1, .int l1), (2, .int l2), (3, .int l3)]) hx hb dX5_leastMade_1 hl (by decide) rfl (fun ls hl => ?_)
  refine lv_iconst (pc := 3) (v := 0) hx hb dX5_leastMade_3 (by decide) ?_
  refine lv_istore (pc := 4) (lv' := [(5, .int 0), (4, .int ((-1))), (0, .ref a0), (1, .int l1), (2, .int l2), (3, .int l3)]) hx hb dX5_leastMade_4 hl (by decide) rfl (fun ls hl => ?_)
  refine k_X5_leastMade_L6 X E (fun l4_1 l5_1 H locs ls hI hl hf => ?_) hI (lv_sub hl [2, 3, 4, 5, 1, 0] rfl) hf
  refine lv_iload (pc := 84) hx hb dX5_leastMade_84 (lv_at hl 4 rfl) ?_
  obtain rfl := Option.some.inj hf
  exact x_iret X hI dX5_leastMade_86

abbrev rm_X5_howManyMade : Room := { frames := 2, cells := 0, slots := 0, locals := 45 }
set_option maxHeartbeats 4000000 in
set_option maxRecDepth 100000 in
theorem k_X5_howManyMade_L5 {p : Program} {l : Launch} {e : Env} {s : State} {m : MethodId} {args : Array Value} {below : List Frame} {meth : Method} {c : Code} {A : Nat → Prop} {G : GX} {a0 : Nat} {a1 : Nat} {a2 : Nat} {l1 : Int32} {l2 : Int32} {v_keys : Nat → Int32} {v_asFound : Nat → Int32} {v_found : Int32} {v_turns : Int32} {v_places : Int32} {K : Int32 → Int32 → Option (Int32)} {res : Int32} (X : CX RX5 cX5_howManyMade 5 (some .int) p s m args meth c) (E : EX G A s)
    (hK : ∀ (l3 : Int32) (l4 : Int32) (H : Heap) (locs : List Loc) (ls : Array Slot), IN A G (vw G a0 a1 a2 v_keys v_asFound v_found v_turns v_places) s H locs → lv_has ls 5 [(0, .ref a0), (1, .int l1), (2, .int l2), (3, .int l3), (4, .int l4)] → K l3 l4 = some res → W p l e rm_X5_howManyMade s m args below meth c H locs 0 0 (MQ below (QX G A (vw G a0 a1 a2 v_keys v_asFound v_found v_turns v_places) (some (.int res))) args s 0 0 A) (F0 m 57 ls [])) :
    ∀ {k : Nat} {l3 : Int32} {l4 : Int32} {H : Heap} {locs : List Loc} {ls : Array Slot}, IN A G (vw G a0 a1 a2 v_keys v_asFound v_found v_turns v_places) s H locs → lv_has ls 5 [(0, .ref a0), (1, .int l1), (2, .int l2), (3, .int l3), (4, .int l4)] → f_X5_howManyMade_L5 l1 l2 v_keys v_found v_places K k l3 l4 = some res → W p l e rm_X5_howManyMade s m args below meth c H locs 0 0 (MQ below (QX G A (vw G a0 a1 a2 v_keys v_asFound v_found v_turns v_places) (some (.int res))) args s 0 0 A) (F0 m 5 ls []) := by
  obtain ⟨hx, hb, hml, hown, hts, hr, hlk⟩ := id X
  intro k
  induction k with
  | zero => intro l3 l4 H locs ls hI hl hf; exact nomatch (show none = some res from hf)
  | succ k ih =>
    intro l3 l4 H locs ls hI hl hf
    rw [f_X5_howManyMade_L5] at hf
    refine lv_iload (pc := 5) hx hb dX5_howManyMade_5 (lv_at hl 4 rfl) ?_
    refine lv_aload_n (pc := 7) hx hb dX5_howManyMade_7 rfl (lv_at hl 0 rfl) ?_
    refine x_get (pc := 8) X E hI inX5 0 rfl rfl 2 (by decide) tw_1_102 rfl dX5_howManyMade_8 ?_
    refine lv_icmp_ge (pc := 11) (tgt := 57) hx hb dX5_howManyMade_11 (by decide) (fun c1 => ?_) (fun c1 => ?_)
    · have hf := q_ip c1 hf
      exact hK _ _ _ _ _ hI (lv_sub hl [0, 1, 2, 3, 4] rfl) hf
    · have hf := q_in c1 hf
      refine lv_aload_n (pc := 14) hx hb dX5_howManyMade_14 rfl (lv_at hl 0 rfl) ?_
      refine x_get (pc := 15) X E hI inX5 0 rfl rfl 0 (by decide) tw_1_97 rfl dX5_howManyMade_15 ?_
      refine lv_iload (pc := 18) hx hb dX5_howManyMade_18 (lv_at hl 4 rfl) ?_
      obtain ⟨t2, e2, hf⟩ := q_ob hf
      refine x_iald (pc := 20) X E hI 1 rfl e2 dX5_howManyMade_20 ?_
      refine lv_iconst (pc := 21) (v := 1) hx hb dX5_howManyMade_21 (by decide) ?_
      refine lv_iand (pc := 22) hx hb dX5_howManyMade_22 ?_
      refine lv_iload_n (pc := 23) hx hb dX5_howManyMade_23 rfl (lv_at hl 2 rfl) ?_
      refine lv_icmp_gt (pc := 24) (tgt := 51) hx hb dX5_howManyMade_24 (by decide) (fun c3 => ?_) (fun c3 => ?_)
      · have hf := q_ip c3 hf
        refine lv_iinc (pc := 51) (v := l4 + 1) (lv' := [(4, .int (l4 + 1)), (0, .ref a0), (1, .int l1), (2, .int l2), (3, .int l3)]) hx hb dX5_howManyMade_51 hl (k := 4) rfl rfl (by decide) rfl (fun ls hl => ?_)
        refine lv_goto (pc := 54) (tgt := 5) hx hb dX5_howManyMade_54 (by decide) ?_
        exact ih hI (lv_sub hl [1, 2, 3, 4, 0] rfl) hf
      · have hf := q_in c3 hf
        refine lv_iload_n (pc := 27) hx hb dX5_howManyMade_27 rfl (lv_at hl 1 rfl) ?_
        refine lv_aload_n (pc := 28) hx hb dX5_howManyMade_28 rfl (lv_at hl 0 rfl) ?_
        refine x_get (pc := 29) X E hI inX5 0 rfl rfl 0 (by decide) tw_1_97 rfl dX5_howManyMade_29 ?_
        refine lv_iload (pc := 32) hx hb dX5_howManyMade_32 (lv_at hl 4 rfl) ?_
        obtain ⟨t4, e4, hf⟩ := q_ob hf
        refine x_iald (pc := 34) X E hI 1 rfl e4 dX5_howManyMade_34 ?_
        refine lv_iconst (pc := 35) (v := 1) hx hb dX5_howManyMade_35 (by decide) ?_
        refine lv_ishr (pc := 36) hx hb dX5_howManyMade_36 ?_
        refine lv_aload_n (pc := 37) hx hb dX5_howManyMade_37 rfl (lv_at hl 0 rfl) ?_
        refine x_get (pc := 38) X E hI inX5 0 rfl rfl 4 (by decide) tw_1_108 rfl dX5_howManyMade_38 ?_
        obtain ⟨t5, e5, hf⟩ := q_ob hf
        refine x_cSn (pc := 41) (st1 := [.int t5]) X E hI (c_X2_moved l G e5) ks_X5_18 hd_X2_moved ⟨rfl, rfl⟩ (by decide) rfl hl.1 rfl (Nat.le_of_ble_eq_true rfl) dX5_howManyMade_41 ⟨Nat.le_of_ble_eq_true rfl, Nat.le_of_ble_eq_true rfl⟩ rfl (fun H locs hI => ?_)
        refine lv_iload_n (pc := 44) hx hb dX5_howManyMade_44 rfl (lv_at hl 1 rfl) ?_
        refine lv_icmp_ne (pc := 45) (tgt := 51) hx hb dX5_howManyMade_45 (by decide) (fun c6 => ?_) (fun c6 => ?_)
        · have hf := q_in c6 hf
          refine lv_iinc (pc := 51) (v := l4 + 1) (lv' := [(4, .int (l4 + 1)), (0, .ref a0), (1, .int l1), (2, .int l2), (3, .int l3)]) hx hb dX5_howManyMade_51 hl (k := 4) rfl rfl (by decide) rfl (fun ls hl => ?_)
          refine lv_goto (pc := 54) (tgt := 5) hx hb dX5_howManyMade_54 (by decide) ?_
          exact ih hI (lv_sub hl [1, 2, 3, 4, 0] rfl) hf
        · have hf := q_ip c6 hf
          refine lv_iinc (pc := 48) (v := l3 + 1) (lv' := [(3, .int (l3 + 1)), (0, .ref a0), (1, .int l1), (2, .int l2), (4, .int l4)]) hx hb dX5_howManyMade_48 hl (k := 3) rfl rfl (by decide) rfl (fun ls hl => ?_)
          refine lv_iinc (pc := 51) (v := l4 + 1) (lv' := [(4, .int (l4 + 1)), (3, .int (l3 + 1)), (0, .ref a0), (1, .int l1), (2, .int l2)]) hx hb dX5_howManyMade_51 hl (k := 4) rfl rfl (by decide) rfl (fun ls hl => ?_)
          refine lv_goto (pc := 54) (tgt := 5) hx hb dX5_howManyMade_54 (by decide) ?_
          exact ih hI (lv_sub hl [2, 3, 4, 1, 0] rfl) hf

set_option maxHeartbeats 4000000 in
set_option maxRecDepth 100000 in
theorem c_X5_howManyMade (l : Launch) (G : GX) (a0 : Nat) (a1 : Nat) (a2 : Nat) {l1 : Int32} {l2 : Int32} {v_keys : Nat → Int32} {v_found : Int32} {v_turns : Int32} {v_places : Int32} {v_asFound : Nat → Int32} {res : Int32} (hf : f_X5_howManyMade l1 l2 v_keys v_found v_turns v_places = some res) : MX l yX5_howManyMade cX5_howManyMade 5 (some .int) rm_X5_howManyMade G (vw G a0 a1 a2 v_keys v_asFound v_found v_turns v_places) [.ref (a0), .int l1, .int l2] (vw G a0 a1 a2 v_keys v_asFound v_found v_turns v_places) (some (.int res)) 0 0 := by
  refine MX.of (plainFor_of_name (by decide)) (Nat.le_of_ble_eq_true rfl) ?_
  intro p e s m below meth c A X E hI ls hl
  obtain ⟨hx, hb, hml, hown, hts, hr, hlk⟩ := id X
  have hl : lv_has ls 5 [(0, .ref a0), (1, .int l1), (2, .int l2)] := hl
  unfold f_X5_howManyMade at hf
  refine lv_iconst (pc := 0) (v := 0) hx hb dX5_howManyMade_0 (by decide) ?_
  refine lv_istore_n (pc := 1) (lv' := [(3, .int 0), (0, .ref a0), (1, .int l1), (2, .int l2)]) hx hb dX5_howManyMade_1 rfl hl (by decide) rfl (fun ls hl => ?_)
  refine lv_iconst (pc := 2) (v := 0) hx hb dX5_howManyMade_2 (by decide) ?_
  refine lv_istore (pc := 3) (lv' := [(4, .int 0), (3, .int 0), (0, .ref a0), (1, .int l1), (2, .int l2)]) hx hb dX5_howManyMade_3 hl (by decide) rfl (fun ls hl => ?_)
  refine k_X5_howManyMade_L5 X E (fun l3_1 l4_1 H locs ls hI hl hf => ?_) hI (lv_sub hl [2, 3, 4, 1, 0] rfl) hf
  refine lv_iload_n (pc := 57) hx hb dX5_howManyMade_57 rfl (lv_at hl 3 rfl) ?_
  refine lv_if_le (pc := 58) (tgt := 71) hx hb dX5_howManyMade_58 (by decide) (fun c2 => ?_) (fun c2 => ?_)
  · have hf := q_ip c2 hf
    refine lv_iconst (pc := 71) (v := 0) hx hb dX5_howManyMade_71 (by decide) ?_
    obtain rfl := Option.some.inj hf
    exact x_iret X hI dX5_howManyMade_72
  · have hf := q_in c2 hf
    refine lv_aload_n (pc := 61) hx hb dX5_howManyMade_61 rfl (lv_at hl 0 rfl) ?_
    refine lv_iload_n (pc := 62) hx hb dX5_howManyMade_62 rfl (lv_at hl 2 rfl) ?_
    obtain ⟨t3, e3, hf⟩ := q_ob hf
    refine x_cVs (pc := 63) (st1 := [.int t3]) (w1 := (vw G a0 a1 a2 v_keys v_asFound v_found v_turns v_places)) X E hI (c_X5_howManyBy l G a0 a1 a2 e3) kv_X5_58 hd_X5_howManyBy ⟨rfl, rfl⟩ (by decide) 0 rfl rfl rfl rfl hl.1 rfl (Nat.le_of_ble_eq_true rfl) dX5_howManyMade_63 ⟨Nat.le_of_ble_eq_true rfl, Nat.le_of_ble_eq_true rfl⟩ rfl (fun H locs hI => ?_)
    refine lv_iload_n (pc := 66) hx hb dX5_howManyMade_66 rfl (lv_at hl 3 rfl) ?_
    obtain ⟨t4, e4, hf⟩ := q_ob hf
    refine x_idiv (pc := 67) X e4 dX5_howManyMade_67 ?_
    refine lv_goto (pc := 68) (tgt := 72) hx hb dX5_howManyMade_68 (by decide) ?_
    obtain rfl := Option.some.inj hf
    exact x_iret X hI dX5_howManyMade_72

abbrev rm_X5_makes : Room := { frames := 2, cells := 0, slots := 0, locals := 45 }
set_option maxHeartbeats 4000000 in
set_option maxRecDepth 100000 in
theorem k_X5_makes_L3 {p : Program} {l : Launch} {e : Env} {s : State} {m : MethodId} {args : Array Value} {below : List Frame} {meth : Method} {c : Code} {A : Nat → Prop} {G : GX} {a0 : Nat} {a1 : Nat} {a2 : Nat} {l1 : Int32} {l2 : Int32} {l3 : Int32} {v_keys : Nat → Int32} {v_asFound : Nat → Int32} {v_found : Int32} {v_turns : Int32} {v_places : Int32} {K : Int32 → Option (Int32)} {res : Int32} (X : CX RX5 cX5_makes 5 (some .boolean) p s m args meth c) (E : EX G A s)
    (hK : ∀ (l4 : Int32) (H : Heap) (locs : List Loc) (ls : Array Slot), IN A G (vw G a0 a1 a2 v_keys v_asFound v_found v_turns v_places) s H locs → lv_has ls 5 [(0, .ref a0), (1, .int l1), (2, .int l2), (3, .int l3), (4, .int l4)] → K l4 = some res → W p l e rm_X5_makes s m args below meth c H locs 0 0 (MQ below (QX G A (vw G a0 a1 a2 v_keys v_asFound v_found v_turns v_places) (some (.int res))) args s 0 0 A) (F0 m 54 ls [])) :
    ∀ {k : Nat} {l4 : Int32} {H : Heap} {locs : List Loc} {ls : Array Slot}, IN A G (vw G a0 a1 a2 v_keys v_asFound v_found v_turns v_places) s H locs → lv_has ls 5 [(0, .ref a0), (1, .int l1), (2, .int l2), (3, .int l3), (4, .int l4)] → f_X5_makes_L3 l1 l2 l3 v_keys v_found v_places K k l4 = some res → W p l e rm_X5_makes s m args below meth c H locs 0 0 (MQ below (QX G A (vw G a0 a1 a2 v_keys v_asFound v_found v_turns v_places) (some (.int res))) args s 0 0 A) (F0 m 3 ls []) := by
  obtain ⟨hx, hb, hml, hown, hts, hr, hlk⟩ := id X
  intro k
  induction k with
  | zero => intro l4 H locs ls hI hl hf; exact nomatch (show none = some res from hf)
  | succ k ih =>
    intro l4 H locs ls hI hl hf
    rw [f_X5_makes_L3] at hf
    refine lv_iload (pc := 3) hx hb dX5_makes_3 (lv_at hl 4 rfl) ?_
    refine lv_aload_n (pc := 5) hx hb dX5_makes_5 rfl (lv_at hl 0 rfl) ?_
    refine x_get (pc := 6) X E hI inX5 0 rfl rfl 2 (by decide) tw_1_102 rfl dX5_makes_6 ?_
    refine lv_icmp_ge (pc := 9) (tgt := 54) hx hb dX5_makes_9 (by decide) (fun c1 => ?_) (fun c1 => ?_)
    · have hf := q_ip c1 hf
      exact hK _ _ _ _ hI (lv_sub hl [0, 1, 2, 3, 4] rfl) hf
    · have hf := q_in c1 hf
      refine lv_aload_n (pc := 12) hx hb dX5_makes_12 rfl (lv_at hl 0 rfl) ?_
      refine x_get (pc := 13) X E hI inX5 0 rfl rfl 0 (by decide) tw_1_97 rfl dX5_makes_13 ?_
      refine lv_iload (pc := 16) hx hb dX5_makes_16 (lv_at hl 4 rfl) ?_
      obtain ⟨t2, e2, hf⟩ := q_ob hf
      refine x_iald (pc := 18) X E hI 1 rfl e2 dX5_makes_18 ?_
      refine lv_iconst (pc := 19) (v := 1) hx hb dX5_makes_19 (by decide) ?_
      refine lv_iand (pc := 20) hx hb dX5_makes_20 ?_
      refine lv_iload_n (pc := 21) hx hb dX5_makes_21 rfl (lv_at hl 3 rfl) ?_
      refine lv_icmp_gt (pc := 22) (tgt := 48) hx hb dX5_makes_22 (by decide) (fun c3 => ?_) (fun c3 => ?_)
      · have hf := q_ip c3 hf
        refine lv_iinc (pc := 48) (v := l4 + 1) (lv' := [(4, .int (l4 + 1)), (0, .ref a0), (1, .int l1), (2, .int l2), (3, .int l3)]) hx hb dX5_makes_48 hl (k := 4) rfl rfl (by decide) rfl (fun ls hl => ?_)
        refine lv_goto (pc := 51) (tgt := 3) hx hb dX5_makes_51 (by decide) ?_
        exact ih hI (lv_sub hl [1, 2, 3, 4, 0] rfl) hf
      · have hf := q_in c3 hf
        refine lv_iload_n (pc := 25) hx hb dX5_makes_25 rfl (lv_at hl 1 rfl) ?_
        refine lv_aload_n (pc := 26) hx hb dX5_makes_26 rfl (lv_at hl 0 rfl) ?_
        refine x_get (pc := 27) X E hI inX5 0 rfl rfl 0 (by decide) tw_1_97 rfl dX5_makes_27 ?_
        refine lv_iload (pc := 30) hx hb dX5_makes_30 (lv_at hl 4 rfl) ?_
        obtain ⟨t4, e4, hf⟩ := q_ob hf
        refine x_iald (pc := 32) X E hI 1 rfl e4 dX5_makes_32 ?_
        refine lv_iconst (pc := 33) (v := 1) hx hb dX5_makes_33 (by decide) ?_
        refine lv_ishr (pc := 34) hx hb dX5_makes_34 ?_
        refine lv_aload_n (pc := 35) hx hb dX5_makes_35 rfl (lv_at hl 0 rfl) ?_
        refine x_get (pc := 36) X E hI inX5 0 rfl rfl 4 (by decide) tw_1_108 rfl dX5_makes_36 ?_
        obtain ⟨t5, e5, hf⟩ := q_ob hf
        refine x_cSn (pc := 39) (st1 := [.int t5]) X E hI (c_X2_moved l G e5) ks_X5_18 hd_X2_moved ⟨rfl, rfl⟩ (by decide) rfl hl.1 rfl (Nat.le_of_ble_eq_true rfl) dX5_makes_39 ⟨Nat.le_of_ble_eq_true rfl, Nat.le_of_ble_eq_true rfl⟩ rfl (fun H locs hI => ?_)
        refine lv_iload_n (pc := 42) hx hb dX5_makes_42 rfl (lv_at hl 2 rfl) ?_
        refine lv_icmp_ne (pc := 43) (tgt := 48) hx hb dX5_makes_43 (by decide) (fun c6 => ?_) (fun c6 => ?_)
        · have hf := q_in c6 hf
          refine lv_iinc (pc := 48) (v := l4 + 1) (lv' := [(4, .int (l4 + 1)), (0, .ref a0), (1, .int l1), (2, .int l2), (3, .int l3)]) hx hb dX5_makes_48 hl (k := 4) rfl rfl (by decide) rfl (fun ls hl => ?_)
          refine lv_goto (pc := 51) (tgt := 3) hx hb dX5_makes_51 (by decide) ?_
          exact ih hI (lv_sub hl [1, 2, 3, 4, 0] rfl) hf
        · have hf := q_ip c6 hf
          refine lv_iconst (pc := 46) (v := 1) hx hb dX5_makes_46 (by decide) ?_
          obtain rfl := Option.some.inj hf
          exact x_zret X hI (Or.inr rfl) dX5_makes_47

set_option maxHeartbeats 4000000 in
set_option maxRecDepth 100000 in
theorem c_X5_makes (l : Launch) (G : GX) (a0 : Nat) (a1 : Nat) (a2 : Nat) {l1 : Int32} {l2 : Int32} {l3 : Int32} {v_keys : Nat → Int32} {v_found : Int32} {v_places : Int32} {v_asFound : Nat → Int32} {v_turns : Int32} {res : Int32} (hf : f_X5_makes l1 l2 l3 v_keys v_found v_places = some res) : MX l yX5_makes cX5_makes 5 (some .boolean) rm_X5_makes G (vw G a0 a1 a2 v_keys v_asFound v_found v_turns v_places) [.ref (a0), .int l1, .int l2, .int l3] (vw G a0 a1 a2 v_keys v_asFound v_found v_turns v_places) (some (.int res)) 0 0 := by
  refine MX.of (plainFor_of_name (by decide)) (Nat.le_of_ble_eq_true rfl) ?_
  intro p e s m below meth c A X E hI ls hl
  obtain ⟨hx, hb, hml, hown, hts, hr, hlk⟩ := id X
  have hl : lv_has ls 5 [(0, .ref a0), (1, .int l1), (2, .int l2), (3, .int l3)] := hl
  unfold f_X5_makes at hf
  refine lv_iconst (pc := 0) (v := 0) hx hb dX5_makes_0 (by decide) ?_
  refine lv_istore (pc := 1) (lv' := [(4, .int 0), (0, .ref a0), (1, .int l1), (2, .int l2), (3, .int l3)]) hx hb dX5_makes_1 hl (by decide) rfl (fun ls hl => ?_)
  refine k_X5_makes_L3 X E (fun l4_1 H locs ls hI hl hf => ?_) hI (lv_sub hl [1, 2, 3, 4, 0] rfl) hf
  refine lv_iconst (pc := 54) (v := 0) hx hb dX5_makes_54 (by decide) ?_
  obtain rfl := Option.some.inj hf
  exact x_zret X hI (Or.inl rfl) dX5_makes_55

abbrev rm_X5_isLeast : Room := { frames := 1, cells := 0, slots := 0, locals := 25 }
set_option maxHeartbeats 4000000 in
set_option maxRecDepth 100000 in
theorem k_X5_isLeast_L2 {p : Program} {l : Launch} {e : Env} {s : State} {m : MethodId} {args : Array Value} {below : List Frame} {meth : Method} {c : Code} {A : Nat → Prop} {G : GX} {a0 : Nat} {a1 : Nat} {a2 : Nat} {l1 : Int32} {l2 : Int32} {v_keys : Nat → Int32} {v_asFound : Nat → Int32} {v_found : Int32} {v_turns : Int32} {v_places : Int32} {K : Int32 → Option (Int32)} {res : Int32} (X : CX RX5 cX5_isLeast 4 (some .boolean) p s m args meth c) (E : EX G A s)
    (hK : ∀ (l3 : Int32) (H : Heap) (locs : List Loc) (ls : Array Slot), IN A G (vw G a0 a1 a2 v_keys v_asFound v_found v_turns v_places) s H locs → lv_has ls 4 [(0, .ref a0), (1, .int l1), (2, .int l2), (3, .int l3)] → K l3 = some res → W p l e rm_X5_isLeast s m args below meth c H locs 0 0 (MQ below (QX G A (vw G a0 a1 a2 v_keys v_asFound v_found v_turns v_places) (some (.int res))) args s 0 0 A) (F0 m 49 ls [])) :
    ∀ {k : Nat} {l3 : Int32} {H : Heap} {locs : List Loc} {ls : Array Slot}, IN A G (vw G a0 a1 a2 v_keys v_asFound v_found v_turns v_places) s H locs → lv_has ls 4 [(0, .ref a0), (1, .int l1), (2, .int l2), (3, .int l3)] → f_X5_isLeast_L2 l1 l2 v_keys v_found v_places K k l3 = some res → W p l e rm_X5_isLeast s m args below meth c H locs 0 0 (MQ below (QX G A (vw G a0 a1 a2 v_keys v_asFound v_found v_turns v_places) (some (.int res))) args s 0 0 A) (F0 m 2 ls []) := by
  obtain ⟨hx, hb, hml, hown, hts, hr, hlk⟩ := id X
  intro k
  induction k with
  | zero => intro l3 H locs ls hI hl hf; exact nomatch (show none = some res from hf)
  | succ k ih =>
    intro l3 H locs ls hI hl hf
    rw [f_X5_isLeast_L2] at hf
    refine lv_iload_n (pc := 2) hx hb dX5_isLeast_2 rfl (lv_at hl 3 rfl) ?_
    refine lv_aload_n (pc := 3) hx hb dX5_isLeast_3 rfl (lv_at hl 0 rfl) ?_
    refine x_get (pc := 4) X E hI inX5 0 rfl rfl 2 (by decide) tw_1_102 rfl dX5_isLeast_4 ?_
    refine lv_icmp_ge (pc := 7) (tgt := 49) hx hb dX5_isLeast_7 (by decide) (fun c1 => ?_) (fun c1 => ?_)
    · have hf := q_ip c1 hf
      exact hK _ _ _ _ hI (lv_sub hl [0, 1, 2, 3] rfl) hf
    · have hf := q_in c1 hf
      refine lv_aload_n (pc := 10) hx hb dX5_isLeast_10 rfl (lv_at hl 0 rfl) ?_
      refine x_get (pc := 11) X E hI inX5 0 rfl rfl 0 (by decide) tw_1_97 rfl dX5_isLeast_11 ?_
      refine lv_iload_n (pc := 14) hx hb dX5_isLeast_14 rfl (lv_at hl 3 rfl) ?_
      obtain ⟨t2, e2, hf⟩ := q_ob hf
      refine x_iald (pc := 15) X E hI 1 rfl e2 dX5_isLeast_15 ?_
      refine lv_iconst (pc := 16) (v := 1) hx hb dX5_isLeast_16 (by decide) ?_
      refine lv_iand (pc := 17) hx hb dX5_isLeast_17 ?_
      refine lv_iload_n (pc := 18) hx hb dX5_isLeast_18 rfl (lv_at hl 2 rfl) ?_
      refine lv_icmp_gt (pc := 19) (tgt := 43) hx hb dX5_isLeast_19 (by decide) (fun c3 => ?_) (fun c3 => ?_)
      · have hf := q_ip c3 hf
        refine lv_iinc (pc := 43) (v := l3 + 1) (lv' := [(3, .int (l3 + 1)), (0, .ref a0), (1, .int l1), (2, .int l2)]) hx hb dX5_isLeast_43 hl (k := 3) rfl rfl (by decide) rfl (fun ls hl => ?_)
        refine lv_goto (pc := 46) (tgt := 2) hx hb dX5_isLeast_46 (by decide) ?_
        exact ih hI (lv_sub hl [1, 2, 3, 0] rfl) hf
      · have hf := q_in c3 hf
        refine lv_iload_n (pc := 22) hx hb dX5_isLeast_22 rfl (lv_at hl 1 rfl) ?_
        refine lv_aload_n (pc := 23) hx hb dX5_isLeast_23 rfl (lv_at hl 0 rfl) ?_
        refine x_get (pc := 24) X E hI inX5 0 rfl rfl 0 (by decide) tw_1_97 rfl dX5_isLeast_24 ?_
        refine lv_iload_n (pc := 27) hx hb dX5_isLeast_27 rfl (lv_at hl 3 rfl) ?_
        obtain ⟨t4, e4, hf⟩ := q_ob hf
        refine x_iald (pc := 28) X E hI 1 rfl e4 dX5_isLeast_28 ?_
        refine lv_iconst (pc := 29) (v := 1) hx hb dX5_isLeast_29 (by decide) ?_
        refine lv_ishr (pc := 30) hx hb dX5_isLeast_30 ?_
        refine lv_aload_n (pc := 31) hx hb dX5_isLeast_31 rfl (lv_at hl 0 rfl) ?_
        refine x_get (pc := 32) X E hI inX5 0 rfl rfl 4 (by decide) tw_1_108 rfl dX5_isLeast_32 ?_
        obtain ⟨t5, e5, hf⟩ := q_ob hf
        refine x_cSn (pc := 35) (st1 := [.int t5]) X E hI (c_X2_becomesLess l G e5) ks_X5_61 hd_X2_becomesLess ⟨rfl, rfl⟩ (by decide) rfl hl.1 rfl (Nat.le_of_ble_eq_true rfl) dX5_isLeast_35 ⟨Nat.le_of_ble_eq_true rfl, Nat.le_of_ble_eq_true rfl⟩ rfl (fun H locs hI => ?_)
        refine lv_if_eq (pc := 38) (tgt := 43) hx hb dX5_isLeast_38 (by decide) (fun c6 => ?_) (fun c6 => ?_)
        · have hf := q_ip c6 hf
          refine lv_iinc (pc := 43) (v := l3 + 1) (lv' := [(3, .int (l3 + 1)), (0, .ref a0), (1, .int l1), (2, .int l2)]) hx hb dX5_isLeast_43 hl (k := 3) rfl rfl (by decide) rfl (fun ls hl => ?_)
          refine lv_goto (pc := 46) (tgt := 2) hx hb dX5_isLeast_46 (by decide) ?_
          exact ih hI (lv_sub hl [1, 2, 3, 0] rfl) hf
        · have hf := q_in c6 hf
          refine lv_iconst (pc := 41) (v := 0) hx hb dX5_isLeast_41 (by decide) ?_
          obtain rfl := Option.some.inj hf
          exact x_zret X hI (Or.inl rfl) dX5_isLeast_42

set_option maxHeartbeats 4000000 in
set_option maxRecDepth 100000 in
theorem c_X5_isLeast (l : Launch) (G : GX) (a0 : Nat) (a1 : Nat) (a2 : Nat) {l1 : Int32} {l2 : Int32} {v_keys : Nat → Int32} {v_found : Int32} {v_places : Int32} {v_asFound : Nat → Int32} {v_turns : Int32} {res : Int32} (hf : f_X5_isLeast l1 l2 v_keys v_found v_places = some res) : MX l yX5_isLeast cX5_isLeast 4 (some .boolean) rm_X5_isLeast G (vw G a0 a1 a2 v_keys v_asFound v_found v_turns v_places) [.ref (a0), .int l1, .int l2] (vw G a0 a1 a2 v_keys v_asFound v_found v_turns v_places) (some (.int res)) 0 0 := by
  refine MX.of (plainFor_of_name (by decide)) (Nat.le_of_ble_eq_true rfl) ?_
  intro p e s m below meth c A X E hI ls hl
  obtain ⟨hx, hb, hml, hown, hts, hr, hlk⟩ := id X
  have hl : lv_has ls 4 [(0, .ref a0), (1, .int l1), (2, .int l2)] := hl
  unfold f_X5_isLeast at hf
  refine lv_iconst (pc := 0) (v := 1) hx hb dX5_isLeast_0 (by decide) ?_
  refine lv_istore_n (pc := 1) (lv' := [(3, .int 1), (0, .ref a0), (1, .int l1), (2, .int l2)]) hx hb dX5_isLeast_1 rfl hl (by decide) rfl (fun ls hl => ?_)
  refine k_X5_isLeast_L2 X E (fun l3_1 H locs ls hI hl hf => ?_) hI (lv_sub hl [1, 2, 3, 0] rfl) hf
  refine lv_iconst (pc := 49) (v := 1) hx hb dX5_isLeast_49 (by decide) ?_
  obtain rfl := Option.some.inj hf
  exact x_zret X hI (Or.inr rfl) dX5_isLeast_50

abbrev rm_X5_begin : Room := { frames := 2, cells := 0, slots := 0, locals := 62 }
set_option maxHeartbeats 4000000 in
set_option maxRecDepth 100000 in
theorem c_X5_begin (l : Launch) (G : GX) (a0 : Nat) (a1 : Nat) (a2 : Nat) {l1 : Int32} {v_keys : Nat → Int32} {v_asFound : Nat → Int32} {v_found : Int32} {v_turns : Int32} {v_places : Int32} {res : (Nat → Int32) × (Nat → Int32) × Int32 × Int32 × Int32} (hf : f_X5_begin l1 v_keys v_asFound v_found v_turns v_places = some res) : MX l yX5_begin cX5_begin 2 none rm_X5_begin G (vw G a0 a1 a2 v_keys v_asFound v_found v_turns v_places) [.ref (a0), .int l1] (vw G a0 a1 a2 res.1 res.2.1 res.2.2.1 res.2.2.2.1 res.2.2.2.2) none 0 0 := by
  refine MX.of (plainFor_of_name (by decide)) (Nat.le_of_ble_eq_true rfl) ?_
  intro p e s m below meth c A X E hI ls hl
  obtain ⟨hx, hb, hml, hown, hts, hr, hlk⟩ := id X
  have hl : lv_has ls 2 [(0, .ref a0), (1, .int l1)] := hl
  unfold f_X5_begin at hf
  refine lv_aload_n (pc := 0) hx hb dX5_begin_0 rfl (lv_at hl 0 rfl) ?_
  refine lv_iload_n (pc := 1) hx hb dX5_begin_1 rfl (lv_at hl 1 rfl) ?_
  refine x_put (pc := 2) (w' := (vw G a0 a1 a2 v_keys v_asFound v_found v_turns l1)) X E hI inX5 tyX5 tyX5_ok nmX5 0 rfl rfl 4 (by decide) tw_1_108 rfl rfl rfl (Nat.le_of_ble_eq_true rfl) rfl dX5_begin_2 (fun H locs hI => ?_)
  refine lv_aload_n (pc := 5) hx hb dX5_begin_5 rfl (lv_at hl 0 rfl) ?_
  refine lv_iconst (pc := 6) (v := 0) hx hb dX5_begin_6 (by decide) ?_
  refine x_put (pc := 7) (w' := (vw G a0 a1 a2 v_keys v_asFound 0 v_turns l1)) X E hI inX5 tyX5 tyX5_ok nmX5 0 rfl rfl 2 (by decide) tw_1_102 rfl rfl rfl (Nat.le_of_ble_eq_true rfl) rfl dX5_begin_7 (fun H locs hI => ?_)
  refine lv_aload_n (pc := 10) hx hb dX5_begin_10 rfl (lv_at hl 0 rfl) ?_
  refine lv_iconst (pc := 11) (v := 0) hx hb dX5_begin_11 (by decide) ?_
  refine x_put (pc := 12) (w' := (vw G a0 a1 a2 v_keys v_asFound 0 0 l1)) X E hI inX5 tyX5 tyX5_ok nmX5 0 rfl rfl 3 (by decide) tw_1_104 rfl rfl rfl (Nat.le_of_ble_eq_true rfl) rfl dX5_begin_12 (fun H locs hI => ?_)
  refine lv_aload_n (pc := 15) hx hb dX5_begin_15 rfl (lv_at hl 0 rfl) ?_
  refine lv_aload_n (pc := 16) hx hb dX5_begin_16 rfl (lv_at hl 0 rfl) ?_
  refine x_get (pc := 17) X E hI inX5 0 rfl rfl 4 (by decide) tw_1_108 rfl dX5_begin_17 ?_
  obtain ⟨t1, e1, hf⟩ := q_ob hf
  refine x_cSn (pc := 20) (st1 := [.int t1, .ref a0]) X E hI (c_X2_unmoved l G e1) ks_X5_34 hd_X2_unmoved ⟨rfl, rfl⟩ (by decide) rfl hl.1 rfl (Nat.le_of_ble_eq_true rfl) dX5_begin_20 ⟨Nat.le_of_ble_eq_true rfl, Nat.le_of_ble_eq_true rfl⟩ rfl (fun H locs hI => ?_)
  refine lv_iconst (pc := 23) (v := 1) hx hb dX5_begin_23 (by decide) ?_
  refine lv_ishl (pc := 24) hx hb dX5_begin_24 ?_
  obtain ⟨t2, e2, hf⟩ := q_ob hf
  refine x_cVs (pc := 25) (st1 := [.int t2.1]) (w1 := (vw G a0 a1 a2 t2.2.1 t2.2.2.1 t2.2.2.2.1 t2.2.2.2.2 l1)) X E hI (c_X5_admit l G a0 a1 a2 e2) kv_X5_38 hd_X5_admit ⟨rfl, rfl⟩ (by decide) 0 rfl rfl rfl rfl hl.1 rfl (Nat.le_of_ble_eq_true rfl) dX5_begin_25 ⟨Nat.le_of_ble_eq_true rfl, Nat.le_of_ble_eq_true rfl⟩ rfl (fun H locs hI => ?_)
  refine lv_pop (pc := 28) hx hb dX5_begin_28 rfl ?_
  obtain rfl := Option.some.inj hf
  exact x_vret X hI dX5_begin_29

abbrev rm_X5_grow : Room := { frames := 3, cells := 0, slots := 0, locals := 83 }
set_option maxHeartbeats 4000000 in
set_option maxRecDepth 100000 in
theorem k_X5_grow_L27 {p : Program} {l : Launch} {e : Env} {s : State} {m : MethodId} {args : Array Value} {below : List Frame} {meth : Method} {c : Code} {A : Nat → Prop} {G : GX} {a0 : Nat} {a1 : Nat} {a2 : Nat} {a3 : Nat} {l2 : Int32} {l4 : Int32} {v_places : Int32} {v_gens : Nat → Int32} {K : Int32 → (Nat → Int32) → (Nat → Int32) → Int32 → Int32 → Option (Int32 × (Nat → Int32) × (Nat → Int32) × Int32 × Int32 × Int32)} {res : Int32 × (Nat → Int32) × (Nat → Int32) × Int32 × Int32 × Int32} (X : CX RX5 cX5_grow 6 (some .boolean) p s m args meth c) (E : EX G A s)
    (hK : ∀ (l5 : Int32) (v_keys : (Nat → Int32)) (v_asFound : (Nat → Int32)) (v_found : Int32) (v_turns : Int32) (H : Heap) (locs : List Loc) (ls : Array Slot), IN A G (vgw G a0 a1 a2 a3 v_keys v_asFound v_found v_turns v_places v_gens) s H locs → lv_has ls 6 [(0, .ref a0), (1, .ref a3), (2, .int l2), (4, .int l4), (5, .int l5)] → K l5 v_keys v_asFound v_found v_turns = some res → W p l e rm_X5_grow s m args below meth c H locs 0 0 (MQ below (QX G A (vgw G a0 a1 a2 a3 res.2.1 res.2.2.1 res.2.2.2.1 res.2.2.2.2.1 res.2.2.2.2.2 v_gens) (some (.int res.1))) args s 0 0 A) (F0 m 77 ls [])) :
    ∀ {k : Nat} {l5 : Int32} {v_keys : (Nat → Int32)} {v_asFound : (Nat → Int32)} {v_found : Int32} {v_turns : Int32} {H : Heap} {locs : List Loc} {ls : Array Slot}, IN A G (vgw G a0 a1 a2 a3 v_keys v_asFound v_found v_turns v_places v_gens) s H locs → lv_has ls 6 [(0, .ref a0), (1, .ref a3), (2, .int l2), (4, .int l4), (5, .int l5)] → f_X5_grow_L27 l2 l4 v_places v_gens K k l5 v_keys v_asFound v_found v_turns = some res → W p l e rm_X5_grow s m args below meth c H locs 0 0 (MQ below (QX G A (vgw G a0 a1 a2 a3 res.2.1 res.2.2.1 res.2.2.2.1 res.2.2.2.2.1 res.2.2.2.2.2 v_gens) (some (.int res.1))) args s 0 0 A) (F0 m 27 ls []) := by
  obtain ⟨hx, hb, hml, hown, hts, hr, hlk⟩ := id X
  intro k
  induction k with
  | zero => intro l5 v_keys v_asFound v_found v_turns H locs ls hI hl hf; exact nomatch (show none = some res from hf)
  | succ k ih =>
    intro l5 v_keys v_asFound v_found v_turns H locs ls hI hl hf
    rw [f_X5_grow_L27] at hf
    refine lv_iload (pc := 27) hx hb dX5_grow_27 (lv_at hl 4 rfl) ?_
    refine lv_aload_n (pc := 29) hx hb dX5_grow_29 rfl (lv_at hl 1 rfl) ?_
    refine x_alen (pc := 30) X E hI 3 rfl (v := 4) rfl dX5_grow_30 ?_
    refine lv_icmp_ge (pc := 31) (tgt := 77) hx hb dX5_grow_31 (by decide) (fun c1 => ?_) (fun c1 => ?_)
    · have hf := q_ip c1 hf
      exact hK _ _ _ _ _ _ _ _ hI (lv_sub hl [0, 1, 2, 3, 4] rfl) hf
    · have hf := q_in c1 hf
      refine lv_iload_n (pc := 34) hx hb dX5_grow_34 rfl (lv_at hl 2 rfl) ?_
      refine lv_iload (pc := 35) hx hb dX5_grow_35 (lv_at hl 4 rfl) ?_
      refine lv_ishr (pc := 37) hx hb dX5_grow_37 ?_
      refine lv_iconst (pc := 38) (v := 1) hx hb dX5_grow_38 (by decide) ?_
      refine lv_iand (pc := 39) hx hb dX5_grow_39 ?_
      refine lv_iconst (pc := 40) (v := 1) hx hb dX5_grow_40 (by decide) ?_
      refine lv_icmp_ne (pc := 41) (tgt := 71) hx hb dX5_grow_41 (by decide) (fun c2 => ?_) (fun c2 => ?_)
      · have hf := q_in c2 hf
        refine lv_iinc (pc := 71) (v := l5 + 1) (lv' := [(5, .int (l5 + 1)), (0, .ref a0), (1, .ref a3), (2, .int l2), (4, .int l4)]) hx hb dX5_grow_71 hl (k := 4) rfl rfl (by decide) rfl (fun ls hl => ?_)
        refine lv_goto (pc := 74) (tgt := 27) hx hb dX5_grow_74 (by decide) ?_
        exact ih hI (lv_sub hl [1, 2, 3, 4, 0] rfl) hf
      · have hf := q_ip c2 hf
        refine lv_aload_n (pc := 44) hx hb dX5_grow_44 rfl (lv_at hl 0 rfl) ?_
        refine lv_aload_n (pc := 45) hx hb dX5_grow_45 rfl (lv_at hl 0 rfl) ?_
        refine x_get (pc := 46) X E hI inX5 0 rfl rfl 1 (by decide) tw_1_100 rfl dX5_grow_46 ?_
        refine lv_iload (pc := 49) hx hb dX5_grow_49 (lv_at hl 3 rfl) ?_
        obtain ⟨t3, e3, hf⟩ := q_ob hf
        refine x_iald (pc := 51) X E hI 2 rfl e3 dX5_grow_51 ?_
        refine lv_aload_n (pc := 52) hx hb dX5_grow_52 rfl (lv_at hl 1 rfl) ?_
        refine lv_iload (pc := 53) hx hb dX5_grow_53 (lv_at hl 4 rfl) ?_
        obtain ⟨t4, e4, hf⟩ := q_ob hf
        refine x_iald (pc := 55) X E hI 3 rfl e4 dX5_grow_55 ?_
        refine lv_aload_n (pc := 56) hx hb dX5_grow_56 rfl (lv_at hl 0 rfl) ?_
        refine x_get (pc := 57) X E hI inX5 0 rfl rfl 4 (by decide) tw_1_108 rfl dX5_grow_57 ?_
        obtain ⟨t5, e5, hf⟩ := q_ob hf
        refine x_cSn (pc := 60) (st1 := [.int t5, .ref a0]) X E hI (c_X5_behind l G e5) ks_X5_46 hd_X5_behind ⟨rfl, rfl⟩ (by decide) rfl hl.1 rfl (Nat.le_of_ble_eq_true rfl) dX5_grow_60 ⟨Nat.le_of_ble_eq_true rfl, Nat.le_of_ble_eq_true rfl⟩ rfl (fun H locs hI => ?_)
        obtain ⟨t6, e6, hf⟩ := q_ob hf
        refine x_cVp (pc := 63) (st1 := [.int t6.1]) (w2 := (vgw G a0 a1 a2 a3 t6.2.1 t6.2.2.1 t6.2.2.2.1 t6.2.2.2.2 v_places v_gens)) X E hI (c_X5_admit l G a0 a1 a2 e6) kv_X5_38 hd_X5_admit ⟨rfl, rfl⟩ (by decide) pt_vgw_vw_0 pt_vgw_vw_0q 0 rfl rfl rfl rfl hl.1 rfl (Nat.le_of_ble_eq_true rfl) dX5_grow_63 ⟨Nat.le_of_ble_eq_true rfl, Nat.le_of_ble_eq_true rfl⟩ rfl (fun H locs hI => ?_)
        refine lv_if_ne (pc := 66) (tgt := 71) hx hb dX5_grow_66 (by decide) (fun c7 => ?_) (fun c7 => ?_)
        · have hf := q_in c7 hf
          refine lv_iinc (pc := 71) (v := l5 + 1) (lv' := [(5, .int (l5 + 1)), (0, .ref a0), (1, .ref a3), (2, .int l2), (4, .int l4)]) hx hb dX5_grow_71 hl (k := 4) rfl rfl (by decide) rfl (fun ls hl => ?_)
          refine lv_goto (pc := 74) (tgt := 27) hx hb dX5_grow_74 (by decide) ?_
          exact ih hI (lv_sub hl [1, 2, 3, 4, 0] rfl) hf
        · have hf := q_ip c7 hf
          refine lv_iconst (pc := 69) (v := 0) hx hb dX5_grow_69 (by decide) ?_
          obtain rfl := Option.some.inj hf
          exact x_zret X hI (Or.inl rfl) dX5_grow_70

set_option maxHeartbeats 4000000 in
set_option maxRecDepth 100000 in
theorem k_X5_grow_L8 {p : Program} {l : Launch} {e : Env} {s : State} {m : MethodId} {args : Array Value} {below : List Frame} {meth : Method} {c : Code} {A : Nat → Prop} {G : GX} {a0 : Nat} {a1 : Nat} {a2 : Nat} {a3 : Nat} {l2 : Int32} {v_places : Int32} {v_gens : Nat → Int32} {K : Int32 → (Nat → Int32) → (Nat → Int32) → Int32 → Int32 → Option (Int32 × (Nat → Int32) × (Nat → Int32) × Int32 × Int32 × Int32)} {res : Int32 × (Nat → Int32) × (Nat → Int32) × Int32 × Int32 × Int32} (X : CX RX5 cX5_grow 6 (some .boolean) p s m args meth c) (E : EX G A s)
    (hK : ∀ (l4 : Int32) (v_keys : (Nat → Int32)) (v_asFound : (Nat → Int32)) (v_found : Int32) (v_turns : Int32) (H : Heap) (locs : List Loc) (ls : Array Slot), IN A G (vgw G a0 a1 a2 a3 v_keys v_asFound v_found v_turns v_places v_gens) s H locs → lv_has ls 6 [(0, .ref a0), (1, .ref a3), (2, .int l2), (4, .int l4)] → K l4 v_keys v_asFound v_found v_turns = some res → W p l e rm_X5_grow s m args below meth c H locs 0 0 (MQ below (QX G A (vgw G a0 a1 a2 a3 res.2.1 res.2.2.1 res.2.2.2.1 res.2.2.2.2.1 res.2.2.2.2.2 v_gens) (some (.int res.1))) args s 0 0 A) (F0 m 83 ls [])) :
    ∀ {k : Nat} {l4 : Int32} {v_keys : (Nat → Int32)} {v_asFound : (Nat → Int32)} {v_found : Int32} {v_turns : Int32} {H : Heap} {locs : List Loc} {ls : Array Slot}, IN A G (vgw G a0 a1 a2 a3 v_keys v_asFound v_found v_turns v_places v_gens) s H locs → lv_has ls 6 [(0, .ref a0), (1, .ref a3), (2, .int l2), (4, .int l4)] → f_X5_grow_L8 l2 v_places v_gens K k l4 v_keys v_asFound v_found v_turns = some res → W p l e rm_X5_grow s m args below meth c H locs 0 0 (MQ below (QX G A (vgw G a0 a1 a2 a3 res.2.1 res.2.2.1 res.2.2.2.1 res.2.2.2.2.1 res.2.2.2.2.2 v_gens) (some (.int res.1))) args s 0 0 A) (F0 m 8 ls []) := by
  obtain ⟨hx, hb, hml, hown, hts, hr, hlk⟩ := id X
  intro k
  induction k with
  | zero => intro l4 v_keys v_asFound v_found v_turns H locs ls hI hl hf; exact nomatch (show none = some res from hf)
  | succ k ih =>
    intro l4 v_keys v_asFound v_found v_turns H locs ls hI hl hf
    rw [f_X5_grow_L8] at hf
    refine lv_iload (pc := 8) hx hb dX5_grow_8 (lv_at hl 3 rfl) ?_
    refine lv_aload_n (pc := 10) hx hb dX5_grow_10 rfl (lv_at hl 0 rfl) ?_
    refine x_get (pc := 11) X E hI inX5 0 rfl rfl 2 (by decide) tw_1_102 rfl dX5_grow_11 ?_
    refine lv_icmp_ge (pc := 14) (tgt := 83) hx hb dX5_grow_14 (by decide) (fun c1 => ?_) (fun c1 => ?_)
    · have hf := q_ip c1 hf
      exact hK _ _ _ _ _ _ _ _ hI (lv_sub hl [0, 1, 2, 3] rfl) hf
    · have hf := q_in c1 hf
      refine lv_iload (pc := 17) hx hb dX5_grow_17 (lv_at hl 3 rfl) ?_
      refine lv_bipush (pc := 19) (v := 120) hx hb dX5_grow_19 (by decide) ?_
      refine lv_icmp_ge (pc := 21) (tgt := 83) hx hb dX5_grow_21 (by decide) (fun c2 => ?_) (fun c2 => ?_)
      · have hf := q_ip c2 hf
        exact hK _ _ _ _ _ _ _ _ hI (lv_sub hl [0, 1, 2, 3] rfl) hf
      · have hf := q_in c2 hf
        refine lv_iconst (pc := 24) (v := 0) hx hb dX5_grow_24 (by decide) ?_
        refine lv_istore (pc := 25) (lv' := [(5, .int 0), (0, .ref a0), (1, .ref a3), (2, .int l2), (4, .int l4)]) hx hb dX5_grow_25 hl (by decide) rfl (fun ls hl => ?_)
        refine k_X5_grow_L27 X E (fun l5_3 v_keys_3 v_asFound_3 v_found_3 v_turns_3 H locs ls hI hl hf => ?_) hI (lv_sub hl [1, 2, 3, 4, 0] rfl) hf
        refine lv_iinc (pc := 77) (v := l4 + 1) (lv' := [(4, .int (l4 + 1)), (0, .ref a0), (1, .ref a3), (2, .int l2), (5, .int l5_3)]) hx hb dX5_grow_77 hl (k := 3) rfl rfl (by decide) rfl (fun ls hl => ?_)
        refine lv_goto (pc := 80) (tgt := 8) hx hb dX5_grow_80 (by decide) ?_
        exact ih hI (lv_sub hl [1, 2, 3, 0] rfl) hf

set_option maxHeartbeats 4000000 in
set_option maxRecDepth 100000 in
theorem c_X5_grow (l : Launch) (G : GX) (a0 : Nat) (a1 : Nat) (a2 : Nat) (a3 : Nat) {l2 : Int32} {l3 : Int32} {v_keys : Nat → Int32} {v_asFound : Nat → Int32} {v_found : Int32} {v_turns : Int32} {v_places : Int32} {v_gens : Nat → Int32} {res : Int32 × (Nat → Int32) × (Nat → Int32) × Int32 × Int32 × Int32} (hf : f_X5_grow l2 l3 v_keys v_asFound v_found v_turns v_places v_gens = some res) : MX l yX5_grow cX5_grow 6 (some .boolean) rm_X5_grow G (vgw G a0 a1 a2 a3 v_keys v_asFound v_found v_turns v_places v_gens) [.ref (a0), .ref (a3), .int l2, .int l3] (vgw G a0 a1 a2 a3 res.2.1 res.2.2.1 res.2.2.2.1 res.2.2.2.2.1 res.2.2.2.2.2 v_gens) (some (.int res.1)) 0 0 := by
  refine MX.of (plainFor_of_name (by decide)) (Nat.le_of_ble_eq_true rfl) ?_
  intro p e s m below meth c A X E hI ls hl
  obtain ⟨hx, hb, hml, hown, hts, hr, hlk⟩ := id X
  have hl : lv_has ls 6 [(0, .ref a0), (1, .ref a3), (2, .int l2), (3, .int l3)] := hl
  unfold f_X5_grow at hf
  refine lv_aload_n (pc := 0) hx hb dX5_grow_0 rfl (lv_at hl 0 rfl) ?_
  refine lv_iload_n (pc := 1) hx hb dX5_grow_1 rfl (lv_at hl 3 rfl) ?_
  obtain ⟨t1, e1, hf⟩ := q_ob hf
  refine x_cVp (pc := 2) (st1 := []) (w2 := (vgw G a0 a1 a2 a3 t1.1 t1.2.1 t1.2.2.1 t1.2.2.2.1 t1.2.2.2.2 v_gens)) X E hI (c_X5_begin l G a0 a1 a2 e1) kv_X5_42 hd_X5_begin ⟨rfl, rfl⟩ (by decide) pt_vgw_vw_0 pt_vgw_vw_0q 0 rfl rfl rfl rfl hl.1 rfl (Nat.le_of_ble_eq_true rfl) dX5_grow_2 ⟨Nat.le_of_ble_eq_true rfl, Nat.le_of_ble_eq_true rfl⟩ rfl (fun H locs hI => ?_)
  refine lv_iconst (pc := 5) (v := 0) hx hb dX5_grow_5 (by decide) ?_
  refine lv_istore (pc := 6) (lv' := [(4, .int 0), (0, .ref a0), (1, .ref a3), (2, .int l2), (3, .int l3)]) hx hb dX5_grow_6 hl (by decide) rfl (fun ls hl => ?_)
  refine k_X5_grow_L8 X E (fun l4_2 v_keys_2 v_asFound_2 v_found_2 v_turns_2 H locs ls hI hl hf => ?_) hI (lv_sub hl [1, 2, 3, 0] rfl) hf
  refine lv_iconst (pc := 83) (v := 1) hx hb dX5_grow_83 (by decide) ?_
  obtain rfl := Option.some.inj hf
  exact x_zret X hI (Or.inr rfl) dX5_grow_84

abbrev rm_X3_emptyRacks : Room := { frames := 0, cells := 0, slots := 0, locals := 0 }
set_option maxHeartbeats 4000000 in
set_option maxRecDepth 100000 in
theorem k_X3_emptyRacks_L2 {p : Program} {l : Launch} {e : Env} {s : State} {m : MethodId} {args : Array Value} {below : List Frame} {meth : Method} {c : Code} {A : Nat → Prop} {G : GX} {a0 : Nat} {a1 : Nat} {a2 : Nat} {a3 : Nat} {a4 : Nat} {a5 : Nat} {a6 : Nat} {a7 : Nat} {a8 : Nat} {a9 : Nat} {f_places : Int32} {f_kinds : Int32} {f_weights : Nat → Int32} {f_howManyGenerators : Int32} {f_generators : Nat → Int32} {f_howManySeen : Int32} {f_seenFirst : Nat → Int32} {f_seenSecond : Nat → Int32} {f_seenIs : Nat → Int32} {f_seenPlaces : Nat → Int32} {f_howManyEvents : Int32} {f_eventWhat : Nat → Int32} {f_eventNumber : Nat → Int32} {K : Int32 → (Nat → Int32) → Option ((Nat → Int32))} {res : (Nat → Int32)} (X : CX RX3 cX3_emptyRacks 2 none p s m args meth c) (E : EX G A s)
    (hK : ∀ (l1 : Int32) (f_racks : (Nat → Int32)) (H : Heap) (locs : List Loc) (ls : Array Slot), IN A G (fw G a0 a1 a2 a3 a4 a5 a6 a7 a8 a9 f_places f_kinds f_weights f_howManyGenerators f_generators f_racks f_howManySeen f_seenFirst f_seenSecond f_seenIs f_seenPlaces f_howManyEvents f_eventWhat f_eventNumber) s H locs → lv_has ls 2 [(0, .ref a0), (1, .int l1)] → K l1 f_racks = some res → W p l e rm_X3_emptyRacks s m args below meth c H locs 0 0 (MQ below (QX G A (fw G a0 a1 a2 a3 a4 a5 a6 a7 a8 a9 f_places f_kinds f_weights f_howManyGenerators f_generators res f_howManySeen f_seenFirst f_seenSecond f_seenIs f_seenPlaces f_howManyEvents f_eventWhat f_eventNumber) none) args s 0 0 A) (F0 m 24 ls [])) :
    ∀ {k : Nat} {l1 : Int32} {f_racks : (Nat → Int32)} {H : Heap} {locs : List Loc} {ls : Array Slot}, IN A G (fw G a0 a1 a2 a3 a4 a5 a6 a7 a8 a9 f_places f_kinds f_weights f_howManyGenerators f_generators f_racks f_howManySeen f_seenFirst f_seenSecond f_seenIs f_seenPlaces f_howManyEvents f_eventWhat f_eventNumber) s H locs → lv_has ls 2 [(0, .ref a0), (1, .int l1)] → f_X3_emptyRacks_L2 K k l1 f_racks = some res → W p l e rm_X3_emptyRacks s m args below meth c H locs 0 0 (MQ below (QX G A (fw G a0 a1 a2 a3 a4 a5 a6 a7 a8 a9 f_places f_kinds f_weights f_howManyGenerators f_generators res f_howManySeen f_seenFirst f_seenSecond f_seenIs f_seenPlaces f_howManyEvents f_eventWhat f_eventNumber) none) args s 0 0 A) (F0 m 2 ls []) := by
  obtain ⟨hx, hb, hml, hown, hts, hr, hlk⟩ := id X
  intro k
  induction k with
  | zero => intro l1 f_racks H locs ls hI hl hf; exact nomatch (show none = some res from hf)
  | succ k ih =>
    intro l1 f_racks H locs ls hI hl hf
    rw [f_X3_emptyRacks_L2] at hf
    refine lv_iload_n (pc := 2) hx hb dX3_emptyRacks_2 rfl (lv_at hl 1 rfl) ?_
    refine lv_aload_n (pc := 3) hx hb dX3_emptyRacks_3 rfl (lv_at hl 0 rfl) ?_
    refine x_get (pc := 4) X E hI inX3 0 rfl rfl 5 (by decide) tw_1_44 rfl dX3_emptyRacks_4 ?_
    refine x_alen (pc := 7) X E hI 3 rfl (v := 9) rfl dX3_emptyRacks_7 ?_
    refine lv_icmp_ge (pc := 8) (tgt := 24) hx hb dX3_emptyRacks_8 (by decide) (fun c1 => ?_) (fun c1 => ?_)
    · have hf := q_ip c1 hf
      exact hK _ _ _ _ _ hI (lv_sub hl [0, 1] rfl) hf
    · have hf := q_in c1 hf
      refine lv_aload_n (pc := 11) hx hb dX3_emptyRacks_11 rfl (lv_at hl 0 rfl) ?_
      refine x_get (pc := 12) X E hI inX3 0 rfl rfl 5 (by decide) tw_1_44 rfl dX3_emptyRacks_12 ?_
      refine lv_iload_n (pc := 15) hx hb dX3_emptyRacks_15 rfl (lv_at hl 1 rfl) ?_
      refine lv_iconst (pc := 16) (v := (-1)) hx hb dX3_emptyRacks_16 (by decide) ?_
      obtain ⟨t2, e2, hf⟩ := q_ob hf
      refine x_iast (pc := 17) (w' := (fw G a0 a1 a2 a3 a4 a5 a6 a7 a8 a9 f_places f_kinds f_weights f_howManyGenerators f_generators t2 f_howManySeen f_seenFirst f_seenSecond f_seenIs f_seenPlaces f_howManyEvents f_eventWhat f_eventNumber)) X E hI 3 rfl e2 rfl dX3_emptyRacks_17 (fun H locs hI => ?_)
      refine lv_iinc (pc := 18) (v := l1 + 1) (lv' := [(1, .int (l1 + 1)), (0, .ref a0)]) hx hb dX3_emptyRacks_18 hl (k := 1) rfl rfl (by decide) rfl (fun ls hl => ?_)
      refine lv_goto (pc := 21) (tgt := 2) hx hb dX3_emptyRacks_21 (by decide) ?_
      exact ih hI (lv_sub hl [1, 0] rfl) hf

set_option maxHeartbeats 4000000 in
set_option maxRecDepth 100000 in
theorem c_X3_emptyRacks (l : Launch) (G : GX) (a0 : Nat) (a1 : Nat) (a2 : Nat) (a3 : Nat) (a4 : Nat) (a5 : Nat) (a6 : Nat) (a7 : Nat) (a8 : Nat) (a9 : Nat) {f_racks : Nat → Int32} {f_places : Int32} {f_kinds : Int32} {f_weights : Nat → Int32} {f_howManyGenerators : Int32} {f_generators : Nat → Int32} {f_howManySeen : Int32} {f_seenFirst : Nat → Int32} {f_seenSecond : Nat → Int32} {f_seenIs : Nat → Int32} {f_seenPlaces : Nat → Int32} {f_howManyEvents : Int32} {f_eventWhat : Nat → Int32} {f_eventNumber : Nat → Int32} {res : (Nat → Int32)} (hf : f_X3_emptyRacks f_racks = some res) : MX l yX3_emptyRacks cX3_emptyRacks 2 none rm_X3_emptyRacks G (fw G a0 a1 a2 a3 a4 a5 a6 a7 a8 a9 f_places f_kinds f_weights f_howManyGenerators f_generators f_racks f_howManySeen f_seenFirst f_seenSecond f_seenIs f_seenPlaces f_howManyEvents f_eventWhat f_eventNumber) [.ref (a0)] (fw G a0 a1 a2 a3 a4 a5 a6 a7 a8 a9 f_places f_kinds f_weights f_howManyGenerators f_generators res f_howManySeen f_seenFirst f_seenSecond f_seenIs f_seenPlaces f_howManyEvents f_eventWhat f_eventNumber) none 0 0 := by
  refine MX.of (plainFor_of_name (by decide)) (Nat.le_of_ble_eq_true rfl) ?_
  intro p e s m below meth c A X E hI ls hl
  obtain ⟨hx, hb, hml, hown, hts, hr, hlk⟩ := id X
  have hl : lv_has ls 2 [(0, .ref a0)] := hl
  unfold f_X3_emptyRacks at hf
  refine lv_iconst (pc := 0) (v := 0) hx hb dX3_emptyRacks_0 (by decide) ?_
  refine lv_istore_n (pc := 1) (lv' := [(1, .int 0), (0, .ref a0)]) hx hb dX3_emptyRacks_1 rfl hl (by decide) rfl (fun ls hl => ?_)
  refine k_X3_emptyRacks_L2 X E (fun l1_1 f_racks_1 H locs ls hI hl hf => ?_) hI (lv_sub hl [1, 0] rfl) hf
  obtain rfl := Option.some.inj hf
  exact x_vret X hI dX3_emptyRacks_24

abbrev rm_X3_takeFromRacks : Room := { frames := 0, cells := 0, slots := 0, locals := 0 }
set_option maxHeartbeats 4000000 in
set_option maxRecDepth 100000 in
theorem k_X3_takeFromRacks_L2 {p : Program} {l : Launch} {e : Env} {s : State} {m : MethodId} {args : Array Value} {below : List Frame} {meth : Method} {c : Code} {A : Nat → Prop} {G : GX} {a0 : Nat} {a1 : Nat} {a2 : Nat} {a3 : Nat} {a4 : Nat} {a5 : Nat} {a6 : Nat} {a7 : Nat} {a8 : Nat} {a9 : Nat} {l1 : Int32} {f_places : Int32} {f_kinds : Int32} {f_weights : Nat → Int32} {f_howManyGenerators : Int32} {f_generators : Nat → Int32} {f_howManySeen : Int32} {f_seenFirst : Nat → Int32} {f_seenSecond : Nat → Int32} {f_seenIs : Nat → Int32} {f_seenPlaces : Nat → Int32} {f_howManyEvents : Int32} {f_eventWhat : Nat → Int32} {f_eventNumber : Nat → Int32} {K : Int32 → (Nat → Int32) → Option ((Nat → Int32))} {res : (Nat → Int32)} (X : CX RX3 cX3_takeFromRacks 3 none p s m args meth c) (E : EX G A s)
    (hK : ∀ (l2 : Int32) (f_racks : (Nat → Int32)) (H : Heap) (locs : List Loc) (ls : Array Slot), IN A G (fw G a0 a1 a2 a3 a4 a5 a6 a7 a8 a9 f_places f_kinds f_weights f_howManyGenerators f_generators f_racks f_howManySeen f_seenFirst f_seenSecond f_seenIs f_seenPlaces f_howManyEvents f_eventWhat f_eventNumber) s H locs → lv_has ls 3 [(0, .ref a0), (1, .int l1), (2, .int l2)] → K l2 f_racks = some res → W p l e rm_X3_takeFromRacks s m args below meth c H locs 0 0 (MQ below (QX G A (fw G a0 a1 a2 a3 a4 a5 a6 a7 a8 a9 f_places f_kinds f_weights f_howManyGenerators f_generators res f_howManySeen f_seenFirst f_seenSecond f_seenIs f_seenPlaces f_howManyEvents f_eventWhat f_eventNumber) none) args s 0 0 A) (F0 m 34 ls [])) :
    ∀ {k : Nat} {l2 : Int32} {f_racks : (Nat → Int32)} {H : Heap} {locs : List Loc} {ls : Array Slot}, IN A G (fw G a0 a1 a2 a3 a4 a5 a6 a7 a8 a9 f_places f_kinds f_weights f_howManyGenerators f_generators f_racks f_howManySeen f_seenFirst f_seenSecond f_seenIs f_seenPlaces f_howManyEvents f_eventWhat f_eventNumber) s H locs → lv_has ls 3 [(0, .ref a0), (1, .int l1), (2, .int l2)] → f_X3_takeFromRacks_L2 l1 K k l2 f_racks = some res → W p l e rm_X3_takeFromRacks s m args below meth c H locs 0 0 (MQ below (QX G A (fw G a0 a1 a2 a3 a4 a5 a6 a7 a8 a9 f_places f_kinds f_weights f_howManyGenerators f_generators res f_howManySeen f_seenFirst f_seenSecond f_seenIs f_seenPlaces f_howManyEvents f_eventWhat f_eventNumber) none) args s 0 0 A) (F0 m 2 ls []) := by
  obtain ⟨hx, hb, hml, hown, hts, hr, hlk⟩ := id X
  intro k
  induction k with
  | zero => intro l2 f_racks H locs ls hI hl hf; exact nomatch (show none = some res from hf)
  | succ k ih =>
    intro l2 f_racks H locs ls hI hl hf
    rw [f_X3_takeFromRacks_L2] at hf
    refine lv_iload_n (pc := 2) hx hb dX3_takeFromRacks_2 rfl (lv_at hl 2 rfl) ?_
    refine lv_aload_n (pc := 3) hx hb dX3_takeFromRacks_3 rfl (lv_at hl 0 rfl) ?_
    refine x_get (pc := 4) X E hI inX3 0 rfl rfl 5 (by decide) tw_1_44 rfl dX3_takeFromRacks_4 ?_
    refine x_alen (pc := 7) X E hI 3 rfl (v := 9) rfl dX3_takeFromRacks_7 ?_
    refine lv_icmp_ge (pc := 8) (tgt := 34) hx hb dX3_takeFromRacks_8 (by decide) (fun c1 => ?_) (fun c1 => ?_)
    · have hf := q_ip c1 hf
      exact hK _ _ _ _ _ hI (lv_sub hl [0, 1, 2] rfl) hf
    · have hf := q_in c1 hf
      refine lv_aload_n (pc := 11) hx hb dX3_takeFromRacks_11 rfl (lv_at hl 0 rfl) ?_
      refine x_get (pc := 12) X E hI inX3 0 rfl rfl 5 (by decide) tw_1_44 rfl dX3_takeFromRacks_12 ?_
      refine lv_iload_n (pc := 15) hx hb dX3_takeFromRacks_15 rfl (lv_at hl 2 rfl) ?_
      obtain ⟨t2, e2, hf⟩ := q_ob hf
      refine x_iald (pc := 16) X E hI 3 rfl e2 dX3_takeFromRacks_16 ?_
      refine lv_iload_n (pc := 17) hx hb dX3_takeFromRacks_17 rfl (lv_at hl 1 rfl) ?_
      refine lv_icmp_ne (pc := 18) (tgt := 28) hx hb dX3_takeFromRacks_18 (by decide) (fun c3 => ?_) (fun c3 => ?_)
      · have hf := q_in c3 hf
        refine lv_iinc (pc := 28) (v := l2 + 1) (lv' := [(2, .int (l2 + 1)), (0, .ref a0), (1, .int l1)]) hx hb dX3_takeFromRacks_28 hl (k := 2) rfl rfl (by decide) rfl (fun ls hl => ?_)
        refine lv_goto (pc := 31) (tgt := 2) hx hb dX3_takeFromRacks_31 (by decide) ?_
        exact ih hI (lv_sub hl [1, 2, 0] rfl) hf
      · have hf := q_ip c3 hf
        refine lv_aload_n (pc := 21) hx hb dX3_takeFromRacks_21 rfl (lv_at hl 0 rfl) ?_
        refine x_get (pc := 22) X E hI inX3 0 rfl rfl 5 (by decide) tw_1_44 rfl dX3_takeFromRacks_22 ?_
        refine lv_iload_n (pc := 25) hx hb dX3_takeFromRacks_25 rfl (lv_at hl 2 rfl) ?_
        refine lv_iconst (pc := 26) (v := (-1)) hx hb dX3_takeFromRacks_26 (by decide) ?_
        obtain ⟨t4, e4, hf⟩ := q_ob hf
        refine x_iast (pc := 27) (w' := (fw G a0 a1 a2 a3 a4 a5 a6 a7 a8 a9 f_places f_kinds f_weights f_howManyGenerators f_generators t4 f_howManySeen f_seenFirst f_seenSecond f_seenIs f_seenPlaces f_howManyEvents f_eventWhat f_eventNumber)) X E hI 3 rfl e4 rfl dX3_takeFromRacks_27 (fun H locs hI => ?_)
        refine lv_iinc (pc := 28) (v := l2 + 1) (lv' := [(2, .int (l2 + 1)), (0, .ref a0), (1, .int l1)]) hx hb dX3_takeFromRacks_28 hl (k := 2) rfl rfl (by decide) rfl (fun ls hl => ?_)
        refine lv_goto (pc := 31) (tgt := 2) hx hb dX3_takeFromRacks_31 (by decide) ?_
        exact ih hI (lv_sub hl [1, 2, 0] rfl) hf

set_option maxHeartbeats 4000000 in
set_option maxRecDepth 100000 in
theorem c_X3_takeFromRacks (l : Launch) (G : GX) (a0 : Nat) (a1 : Nat) (a2 : Nat) (a3 : Nat) (a4 : Nat) (a5 : Nat) (a6 : Nat) (a7 : Nat) (a8 : Nat) (a9 : Nat) {l1 : Int32} {f_racks : Nat → Int32} {f_places : Int32} {f_kinds : Int32} {f_weights : Nat → Int32} {f_howManyGenerators : Int32} {f_generators : Nat → Int32} {f_howManySeen : Int32} {f_seenFirst : Nat → Int32} {f_seenSecond : Nat → Int32} {f_seenIs : Nat → Int32} {f_seenPlaces : Nat → Int32} {f_howManyEvents : Int32} {f_eventWhat : Nat → Int32} {f_eventNumber : Nat → Int32} {res : (Nat → Int32)} (hf : f_X3_takeFromRacks l1 f_racks = some res) : MX l yX3_takeFromRacks cX3_takeFromRacks 3 none rm_X3_takeFromRacks G (fw G a0 a1 a2 a3 a4 a5 a6 a7 a8 a9 f_places f_kinds f_weights f_howManyGenerators f_generators f_racks f_howManySeen f_seenFirst f_seenSecond f_seenIs f_seenPlaces f_howManyEvents f_eventWhat f_eventNumber) [.ref (a0), .int l1] (fw G a0 a1 a2 a3 a4 a5 a6 a7 a8 a9 f_places f_kinds f_weights f_howManyGenerators f_generators res f_howManySeen f_seenFirst f_seenSecond f_seenIs f_seenPlaces f_howManyEvents f_eventWhat f_eventNumber) none 0 0 := by
  refine MX.of (plainFor_of_name (by decide)) (Nat.le_of_ble_eq_true rfl) ?_
  intro p e s m below meth c A X E hI ls hl
  obtain ⟨hx, hb, hml, hown, hts, hr, hlk⟩ := id X
  have hl : lv_has ls 3 [(0, .ref a0), (1, .int l1)] := hl
  unfold f_X3_takeFromRacks at hf
  refine lv_iconst (pc := 0) (v := 0) hx hb dX3_takeFromRacks_0 (by decide) ?_
  refine lv_istore_n (pc := 1) (lv' := [(2, .int 0), (0, .ref a0), (1, .int l1)]) hx hb dX3_takeFromRacks_1 rfl hl (by decide) rfl (fun ls hl => ?_)
  refine k_X3_takeFromRacks_L2 X E (fun l2_1 f_racks_1 H locs ls hI hl hf => ?_) hI (lv_sub hl [1, 2, 0] rfl) hf
  obtain rfl := Option.some.inj hf
  exact x_vret X hI dX3_takeFromRacks_34

abbrev rm_X3_weightAt : Room := { frames := 1, cells := 0, slots := 0, locals := 21 }
set_option maxHeartbeats 4000000 in
set_option maxRecDepth 100000 in
theorem c_X3_weightAt (l : Launch) (G : GX) (a0 : Nat) (a1 : Nat) (a2 : Nat) (a3 : Nat) (a4 : Nat) (a5 : Nat) (a6 : Nat) (a7 : Nat) (a8 : Nat) (a9 : Nat) {l1 : Int32} {l2 : Int32} {f_weights : Nat → Int32} {f_places : Int32} {f_kinds : Int32} {f_howManyGenerators : Int32} {f_generators : Nat → Int32} {f_racks : Nat → Int32} {f_howManySeen : Int32} {f_seenFirst : Nat → Int32} {f_seenSecond : Nat → Int32} {f_seenIs : Nat → Int32} {f_seenPlaces : Nat → Int32} {f_howManyEvents : Int32} {f_eventWhat : Nat → Int32} {f_eventNumber : Nat → Int32} {res : Int32} (hf : f_X3_weightAt l1 l2 f_weights = some res) : MX l yX3_weightAt cX3_weightAt 4 (some .int) rm_X3_weightAt G (fw G a0 a1 a2 a3 a4 a5 a6 a7 a8 a9 f_places f_kinds f_weights f_howManyGenerators f_generators f_racks f_howManySeen f_seenFirst f_seenSecond f_seenIs f_seenPlaces f_howManyEvents f_eventWhat f_eventNumber) [.ref (a0), .int l1, .int l2] (fw G a0 a1 a2 a3 a4 a5 a6 a7 a8 a9 f_places f_kinds f_weights f_howManyGenerators f_generators f_racks f_howManySeen f_seenFirst f_seenSecond f_seenIs f_seenPlaces f_howManyEvents f_eventWhat f_eventNumber) (some (.int res)) 0 0 := by
  refine MX.of (plainFor_of_name (by decide)) (Nat.le_of_ble_eq_true rfl) ?_
  intro p e s m below meth c A X E hI ls hl
  obtain ⟨hx, hb, hml, hown, hts, hr, hlk⟩ := id X
  have hl : lv_has ls 4 [(0, .ref a0), (1, .int l1), (2, .int l2)] := hl
  unfold f_X3_weightAt at hf
  refine lv_iload_n (pc := 0) hx hb dX3_weightAt_0 rfl (lv_at hl 1 rfl) ?_
  refine lv_iload_n (pc := 1) hx hb dX3_weightAt_1 rfl (lv_at hl 2 rfl) ?_
  obtain ⟨t1, e1, hf⟩ := q_ob hf
  refine x_cSn (pc := 2) (st1 := [.int t1]) X E hI (c_X2_at l G e1) ks_X3_49 hd_X2_at ⟨rfl, rfl⟩ (by decide) rfl hl.1 rfl (Nat.le_of_ble_eq_true rfl) dX3_weightAt_2 ⟨Nat.le_of_ble_eq_true rfl, Nat.le_of_ble_eq_true rfl⟩ rfl (fun H locs hI => ?_)
  refine lv_istore_n (pc := 5) (lv' := [(3, .int t1), (0, .ref a0), (1, .int l1), (2, .int l2)]) hx hb dX3_weightAt_5 rfl hl (by decide) rfl (fun ls hl => ?_)
  refine lv_iload_n (pc := 6) hx hb dX3_weightAt_6 rfl (lv_at hl 0 rfl) ?_
  refine lv_aload_n (pc := 7) hx hb dX3_weightAt_7 rfl (lv_at hl 1 rfl) ?_
  refine x_get (pc := 8) X E hI inX3 0 rfl rfl 2 (by decide) tw_1_38 rfl dX3_weightAt_8 ?_
  refine x_alen (pc := 11) X E hI 1 rfl (v := 4) rfl dX3_weightAt_11 ?_
  refine lv_icmp_ge (pc := 12) (tgt := 24) hx hb dX3_weightAt_12 (by decide) (fun c2 => ?_) (fun c2 => ?_)
  · have hf := q_ip c2 hf
    refine lv_iconst (pc := 24) (v := 0) hx hb dX3_weightAt_24 (by decide) ?_
    obtain rfl := Option.some.inj hf
    exact x_iret X hI dX3_weightAt_25
  · have hf := q_in c2 hf
    refine lv_aload_n (pc := 15) hx hb dX3_weightAt_15 rfl (lv_at hl 1 rfl) ?_
    refine x_get (pc := 16) X E hI inX3 0 rfl rfl 2 (by decide) tw_1_38 rfl dX3_weightAt_16 ?_
    refine lv_iload_n (pc := 19) hx hb dX3_weightAt_19 rfl (lv_at hl 0 rfl) ?_
    obtain ⟨t3, e3, hf⟩ := q_ob hf
    refine x_iald (pc := 20) X E hI 1 rfl e3 dX3_weightAt_20 ?_
    refine lv_goto (pc := 21) (tgt := 25) hx hb dX3_weightAt_21 (by decide) ?_
    obtain rfl := Option.some.inj hf
    exact x_iret X hI dX3_weightAt_25

abbrev rm_X3_weightOf : Room := { frames := 2, cells := 0, slots := 0, locals := 44 }
set_option maxHeartbeats 4000000 in
set_option maxRecDepth 100000 in
theorem k_X3_weightOf_L4 {p : Program} {l : Launch} {e : Env} {s : State} {m : MethodId} {args : Array Value} {below : List Frame} {meth : Method} {c : Code} {A : Nat → Prop} {G : GX} {a0 : Nat} {a1 : Nat} {a2 : Nat} {a3 : Nat} {a4 : Nat} {a5 : Nat} {a6 : Nat} {a7 : Nat} {a8 : Nat} {a9 : Nat} {l1 : Int32} {f_places : Int32} {f_kinds : Int32} {f_weights : Nat → Int32} {f_howManyGenerators : Int32} {f_generators : Nat → Int32} {f_racks : Nat → Int32} {f_howManySeen : Int32} {f_seenFirst : Nat → Int32} {f_seenSecond : Nat → Int32} {f_seenIs : Nat → Int32} {f_seenPlaces : Nat → Int32} {f_howManyEvents : Int32} {f_eventWhat : Nat → Int32} {f_eventNumber : Nat → Int32} {K : Int32 → Int32 → Option (Int32)} {res : Int32} (X : CX RX3 cX3_weightOf 4 (some .int) p s m args meth c) (E : EX G A s)
    (hK : ∀ (l2 : Int32) (l3 : Int32) (H : Heap) (locs : List Loc) (ls : Array Slot), IN A G (fw G a0 a1 a2 a3 a4 a5 a6 a7 a8 a9 f_places f_kinds f_weights f_howManyGenerators f_generators f_racks f_howManySeen f_seenFirst f_seenSecond f_seenIs f_seenPlaces f_howManyEvents f_eventWhat f_eventNumber) s H locs → lv_has ls 4 [(0, .ref a0), (1, .int l1), (2, .int l2), (3, .int l3)] → K l2 l3 = some res → W p l e rm_X3_weightOf s m args below meth c H locs 0 0 (MQ below (QX G A (fw G a0 a1 a2 a3 a4 a5 a6 a7 a8 a9 f_places f_kinds f_weights f_howManyGenerators f_generators f_racks f_howManySeen f_seenFirst f_seenSecond f_seenIs f_seenPlaces f_howManyEvents f_eventWhat f_eventNumber) (some (.int res))) args s 0 0 A) (F0 m 27 ls [])) :
    ∀ {k : Nat} {l2 : Int32} {l3 : Int32} {H : Heap} {locs : List Loc} {ls : Array Slot}, IN A G (fw G a0 a1 a2 a3 a4 a5 a6 a7 a8 a9 f_places f_kinds f_weights f_howManyGenerators f_generators f_racks f_howManySeen f_seenFirst f_seenSecond f_seenIs f_seenPlaces f_howManyEvents f_eventWhat f_eventNumber) s H locs → lv_has ls 4 [(0, .ref a0), (1, .int l1), (2, .int l2), (3, .int l3)] → f_X3_weightOf_L4 l1 f_places f_weights K k l2 l3 = some res → W p l e rm_X3_weightOf s m args below meth c H locs 0 0 (MQ below (QX G A (fw G a0 a1 a2 a3 a4 a5 a6 a7 a8 a9 f_places f_kinds f_weights f_howManyGenerators f_generators f_racks f_howManySeen f_seenFirst f_seenSecond f_seenIs f_seenPlaces f_howManyEvents f_eventWhat f_eventNumber) (some (.int res))) args s 0 0 A) (F0 m 4 ls []) := by
  obtain ⟨hx, hb, hml, hown, hts, hr, hlk⟩ := id X
  intro k
  induction k with
  | zero => intro l2 l3 H locs ls hI hl hf; exact nomatch (show none = some res from hf)
  | succ k ih =>
    intro l2 l3 H locs ls hI hl hf
    rw [f_X3_weightOf_L4] at hf
    refine lv_iload_n (pc := 4) hx hb dX3_weightOf_4 rfl (lv_at hl 3 rfl) ?_
    refine lv_aload_n (pc := 5) hx hb dX3_weightOf_5 rfl (lv_at hl 0 rfl) ?_
    refine x_get (pc := 6) X E hI inX3 0 rfl rfl 0 (by decide) tw_1_34 rfl dX3_weightOf_6 ?_
    refine lv_icmp_ge (pc := 9) (tgt := 27) hx hb dX3_weightOf_9 (by decide) (fun c1 => ?_) (fun c1 => ?_)
    · have hf := q_ip c1 hf
      exact hK _ _ _ _ _ hI (lv_sub hl [0, 1, 2, 3] rfl) hf
    · have hf := q_in c1 hf
      refine lv_iload_n (pc := 12) hx hb dX3_weightOf_12 rfl (lv_at hl 2 rfl) ?_
      refine lv_aload_n (pc := 13) hx hb dX3_weightOf_13 rfl (lv_at hl 0 rfl) ?_
      refine lv_iload_n (pc := 14) hx hb dX3_weightOf_14 rfl (lv_at hl 1 rfl) ?_
      refine lv_iload_n (pc := 15) hx hb dX3_weightOf_15 rfl (lv_at hl 3 rfl) ?_
      obtain ⟨t2, e2, hf⟩ := q_ob hf
      refine x_cVs (pc := 16) (st1 := [.int t2, .int l2]) (w1 := (fw G a0 a1 a2 a3 a4 a5 a6 a7 a8 a9 f_places f_kinds f_weights f_howManyGenerators f_generators f_racks f_howManySeen f_seenFirst f_seenSecond f_seenIs f_seenPlaces f_howManyEvents f_eventWhat f_eventNumber)) X E hI (c_X3_weightAt l G a0 a1 a2 a3 a4 a5 a6 a7 a8 a9 e2) kv_X3_55 hd_X3_weightAt ⟨rfl, rfl⟩ (by decide) 0 rfl rfl rfl rfl hl.1 rfl (Nat.le_of_ble_eq_true rfl) dX3_weightOf_16 ⟨Nat.le_of_ble_eq_true rfl, Nat.le_of_ble_eq_true rfl⟩ rfl (fun H locs hI => ?_)
      refine lv_iadd (pc := 19) hx hb dX3_weightOf_19 ?_
      refine lv_istore_n (pc := 20) (lv' := [(2, .int (l2 + t2)), (0, .ref a0), (1, .int l1), (3, .int l3)]) hx hb dX3_weightOf_20 rfl hl (by decide) rfl (fun ls hl => ?_)
      refine lv_iinc (pc := 21) (v := l3 + 1) (lv' := [(3, .int (l3 + 1)), (2, .int (l2 + t2)), (0, .ref a0), (1, .int l1)]) hx hb dX3_weightOf_21 hl (k := 3) rfl rfl (by decide) rfl (fun ls hl => ?_)
      refine lv_goto (pc := 24) (tgt := 4) hx hb dX3_weightOf_24 (by decide) ?_
      exact ih hI (lv_sub hl [2, 3, 1, 0] rfl) hf

set_option maxHeartbeats 4000000 in
set_option maxRecDepth 100000 in
theorem c_X3_weightOf (l : Launch) (G : GX) (a0 : Nat) (a1 : Nat) (a2 : Nat) (a3 : Nat) (a4 : Nat) (a5 : Nat) (a6 : Nat) (a7 : Nat) (a8 : Nat) (a9 : Nat) {l1 : Int32} {f_places : Int32} {f_weights : Nat → Int32} {f_kinds : Int32} {f_howManyGenerators : Int32} {f_generators : Nat → Int32} {f_racks : Nat → Int32} {f_howManySeen : Int32} {f_seenFirst : Nat → Int32} {f_seenSecond : Nat → Int32} {f_seenIs : Nat → Int32} {f_seenPlaces : Nat → Int32} {f_howManyEvents : Int32} {f_eventWhat : Nat → Int32} {f_eventNumber : Nat → Int32} {res : Int32} (hf : f_X3_weightOf l1 f_places f_weights = some res) : MX l yX3_weightOf cX3_weightOf 4 (some .int) rm_X3_weightOf G (fw G a0 a1 a2 a3 a4 a5 a6 a7 a8 a9 f_places f_kinds f_weights f_howManyGenerators f_generators f_racks f_howManySeen f_seenFirst f_seenSecond f_seenIs f_seenPlaces f_howManyEvents f_eventWhat f_eventNumber) [.ref (a0), .int l1] (fw G a0 a1 a2 a3 a4 a5 a6 a7 a8 a9 f_places f_kinds f_weights f_howManyGenerators f_generators f_racks f_howManySeen f_seenFirst f_seenSecond f_seenIs f_seenPlaces f_howManyEvents f_eventWhat f_eventNumber) (some (.int res)) 0 0 := by
  refine MX.of (plainFor_of_name (by decide)) (Nat.le_of_ble_eq_true rfl) ?_
  intro p e s m below meth c A X E hI ls hl
  obtain ⟨hx, hb, hml, hown, hts, hr, hlk⟩ := id X
  have hl : lv_has ls 4 [(0, .ref a0), (1, .int l1)] := hl
  unfold f_X3_weightOf at hf
  refine lv_iconst (pc := 0) (v := 0) hx hb dX3_weightOf_0 (by decide) ?_
  refine lv_istore_n (pc := 1) (lv' := [(2, .int 0), (0, .ref a0), (1, .int l1)]) hx hb dX3_weightOf_1 rfl hl (by decide) rfl (fun ls hl => ?_)
  refine lv_iconst (pc := 2) (v := 0) hx hb dX3_weightOf_2 (by decide) ?_
  refine lv_istore_n (pc := 3) (lv' := [(3, .int 0), (2, .int 0), (0, .ref a0), (1, .int l1)]) hx hb dX3_weightOf_3 rfl hl (by decide) rfl (fun ls hl => ?_)
  refine k_X3_weightOf_L4 X E (fun l2_1 l3_1 H locs ls hI hl hf => ?_) hI (lv_sub hl [2, 3, 1, 0] rfl) hf
  refine lv_iload_n (pc := 27) hx hb dX3_weightOf_27 rfl (lv_at hl 2 rfl) ?_
  obtain rfl := Option.some.inj hf
  exact x_iret X hI dX3_weightOf_28

