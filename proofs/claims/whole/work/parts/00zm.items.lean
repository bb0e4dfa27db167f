-- ===== the steps: item, peek =====
theorem e_holds {x : Int32} (h : x = -1 ∨ ∃ s, s ≤ 4 ∧ x = nI s) : f_X6_holds x = some (if x = -1 then 0 else 1) := by
  unfold f_X6_holds
  split <;> rfl
theorem e_cut {s : Nat} (h : s ≤ 4) (x : Int64) : ∃ y, f_X6_cut x (nI s) = some y ∧ ∀ Z : Nat → Int64, ∀ i : Int32, (if nI s = 0 then (q_wl Z 360 i ((((x : Int64).toInt32 : Int32).toInt8.toInt32 : Int32).toInt64)).bind fun t19 => some ((1 : Int32), t19) else (if nI s = 1 then ((q_wl Z 360 i ((((x : Int64).toInt32 : Int32).toInt16.toInt32 : Int32).toInt64)).bind fun t18 => some (1, t18)) else (if nI s = 2 then ((q_wl Z 360 i (((x : Int64).toInt32 : Int32).toInt64)).bind fun t17 => some (1, t17)) else (if nI s = 3 then ((q_wl Z 360 i x).bind fun t16 => some (1, t16)) else (if (lg_cmp x 0) = 0 then ((q_wl Z 360 i 0).bind fun t14 => some (1, t14)) else ((q_wl Z 360 i 1).bind fun t15 => some (1, t15))))))) = (q_wl Z 360 i y).bind fun t => some (1, t) := by
  unfold f_X6_cut
  obtain rfl | rfl | rfl | rfl | rfl : s = 0 ∨ s = 1 ∨ s = 2 ∨ s = 3 ∨ s = 4 := by omega
  · exact ⟨_, rfl, fun Z i => rfl⟩
  · exact ⟨_, rfl, fun Z i => rfl⟩
  · exact ⟨_, rfl, fun Z i => rfl⟩
  · exact ⟨_, rfl, fun Z i => rfl⟩
  · by_cases h : lg_cmp x 0 = 0
    · refine ⟨0, ?_, fun Z i => ?_⟩
      · show (if lg_cmp x 0 = 0 then some (0 : Int64) else some 1) = some 0
        rw [if_pos h]
      · show (if (lg_cmp x 0) = 0 then ((q_wl Z 360 i 0).bind fun t14 => some ((1 : Int32), t14)) else ((q_wl Z 360 i 1).bind fun t15 => some (1, t15))) = _
        rw [if_pos h]
    · refine ⟨1, ?_, fun Z i => ?_⟩
      · show (if lg_cmp x 0 = 0 then some (0 : Int64) else some 1) = some 1
        rw [if_neg h]
      · show (if (lg_cmp x 0) = 0 then ((q_wl Z 360 i 0).bind fun t14 => some ((1 : Int32), t14)) else ((q_wl Z 360 i 1).bind fun t15 => some (1, t15))) = _
        rw [if_neg h]
/-- a place within a size, or not -/
theorem sz_dec (x : Int32) {l : Nat} (hl : l ≤ 60) : (∃ v, v < l ∧ x = nI v ∧ f_X10_in (x.toInt64) 0 ((nI l - 1 : Int32).toInt64) = some 1) ∨ ((x < 0 ∨ nI l ≤ x) ∧ f_X10_in (x.toInt64) 0 ((nI l - 1 : Int32).toInt64) = some 0) := by
  have e : f_X10_in (x.toInt64) 0 ((nI l - 1 : Int32).toInt64) = some (if (0 : Int32) ≤ x ∧ x ≤ nI l - 1 then 1 else 0) := r_inN (by decide) rfl
  by_cases h0 : l = 0
  · subst h0
    right
    have h1 : x < 0 ∨ (nI 0) ≤ x := by
      by_cases q : x < 0
      · exact Or.inl q
      · exact Or.inr (nlt_le.mp q)
    refine ⟨h1, ?_⟩
    rw [e, if_neg]
    rintro ⟨q1, q2⟩
    rw [fa_le] at q1 q2
    rw [show (nI 0 - 1 : Int32).toInt = -1 from by decide] at q2
    rw [show (0 : Int32).toInt = 0 from rfl] at q1
    omega
  · rw [show nI l - 1 = nI (l - 1) from nI_sub (a := l) (b := 1) (by omega)] at e ⊢
    rcases row_dec x (c := l) (by omega) (by omega) with ⟨v, hv, rfl⟩ | ⟨h1, h2⟩
    · exact Or.inl ⟨v, hv, rfl, by rw [e, if_pos (row_in hv (by omega))]⟩
    · exact Or.inr ⟨h2, by rw [e, if_neg h1]⟩
theorem op_item : OP_item RR := by
  intro x_hasImage f_places f_kinds f_weights f_howManyGenerators f_generators f_racks f_howManySeen f_seenFirst f_seenSecond f_seenIs f_seenPlaces f_howManyEvents f_eventWhat f_eventNumber g_places g_kinds g_weights g_howManyGenerators g_generators g_racks g_howManySeen g_seenFirst g_seenSecond g_seenIs g_seenPlaces g_howManyEvents g_eventWhat g_eventNumber v_keys v_asFound v_found v_turns v_places p_keys p_asFound p_found p_turns p_places i_sort i_howOften i_sorts i_moves n_u u_leasts u_howMany u_known n_w w_leasts w_howMany w_known t_signs t_length t_whole t_begins t_ends r_sorts r_numbers r_length sr ln it z_thrown z_s z_kept z_isKept z_moveMany z_moves z_hands z_troubles z_troubleSorts z_troubleNumbers z_asked z_paint z_leasts z_isSeen z_classMany z_types z_typeCounts z_typeMany z_text z_signs z_at z_lacks z_clauses z_begun z_letters z_firsts z_seconds z_aside z_sorts z_sizes z_items hR p1 p2 p3
  obtain ⟨n, k, m, gk, w, B, hF, hV, hI, hu, hw, ht, hr, hs⟩ := hR
  rcases t_dec p1 with ⟨t, ht6, rfl⟩ | ⟨i1, i2⟩
  · obtain ⟨hA, hL, hS0, ⟨l, hl, hL0⟩, hIt⟩ := hs t ht6
    have hs0 : q_rd z_sorts 6 (nI t) = some (sr t) := by rw [qe_rd _ ht6 (by decide), hA]
    have hl0 : q_rd z_sizes 6 (nI t) = some (nI l) := by rw [qe_rd _ ht6 (by decide), ← hL, hL0]
    rcases hS0 with hm | ⟨s, hs4, hm⟩
    · refine ⟨(-11, z_items), ?_, Or.inl ⟨t, ht6, rfl, (-11, it t), ?_, rfl, RR_mk hF hV hI hu hw ht hr (TP_same ht6 hs)⟩⟩
      · unfold f_X10_item
        rw [t_isT ht6, ob_some, if_neg (show ¬ (1 : Int32) = 0 by decide), hs0, ob_some, if_pos hm]
      · unfold f_X9_item_t
        rw [t_isC ht6, ob_some, if_neg (show ¬ (1 : Int32) = 0 by decide), hm]
        rfl
    · have hn1 : ¬ nI s = (-1 : Int32) := nI_neg1 (by omega)
      rw [hm] at hs0
      have hh : f_X6_holds (nI s) = some 1 := by
        unfold f_X6_holds
        rw [if_neg hn1]
      rcases sz_dec p2 hl with ⟨v, hv, rfl, e⟩ | ⟨h, e⟩
      · obtain ⟨y, c1, c2⟩ := e_cut hs4 p3
        refine ⟨(1, vp_updL z_items (60 * t + v) y), ?_, Or.inl ⟨t, ht6, rfl, (1, vp_updL (it t) v y), ?_, rfl, RR_mk hF hV hI hu hw ht hr (TP_it hs (fun j hj => ?_) (fun x hx => pk_uLn (by omega)))⟩⟩
        · unfold f_X10_item
          rw [t_isT ht6, ob_some, if_neg (show ¬ (1 : Int32) = 0 by decide), hs0, ob_some, if_neg hn1, hl0, ob_some, e, ob_some, if_neg (show ¬ (1 : Int32) = 0 by decide), ob_some]
          rw [c2, li_60, nI_mul, nI_add, qe_wl _ _ (by omega) (by decide), ob_some]
        · unfold f_X9_item_t
          rw [t_isC ht6, ob_some, if_neg (show ¬ (1 : Int32) = 0 by decide), hm, hh, ob_some, if_neg (show ¬ (1 : Int32) = 0 by decide), if_neg (nI_pos (by omega)), hL0, if_pos (nI_lt hv (by omega)), c1, ob_some, qe_wl _ _ (by omega) (by decide), ob_some]
        · show vp_updL (it t) v y j = vp_updL z_items (60 * t + v) y (60 * t + j)
          by_cases q : j = v
          · subst q
            rw [pk_uLs, pk_uLs]
          · rw [pk_uLn q, pk_uLn (by omega), hIt j hj]
      · refine ⟨(-13, z_items), ?_, Or.inl ⟨t, ht6, rfl, (-13, it t), ?_, rfl, RR_mk hF hV hI hu hw ht hr (TP_same ht6 hs)⟩⟩
        · unfold f_X10_item
          rw [t_isT ht6, ob_some, if_neg (show ¬ (1 : Int32) = 0 by decide), hs0, ob_some, if_neg hn1, hl0, ob_some, e, ob_some, if_pos rfl]
        · unfold f_X9_item_t
          rw [t_isC ht6, ob_some, if_neg (show ¬ (1 : Int32) = 0 by decide), hm, hh, ob_some, if_neg (show ¬ (1 : Int32) = 0 by decide), hL0]
          by_cases q : p2 < 0
          · rw [if_pos q]
          · rw [if_neg q, if_neg (nlt_le.mpr (h.resolve_left q))]
  · refine ⟨(-1, z_items), ?_, Or.inr ⟨-1, ?_, rfl, RR_mk hF hV hI hu hw ht hr hs⟩⟩
    · unfold f_X10_item
      rw [i1, ob_some, if_pos rfl]
    · unfold f_X9_item_n
      rw [i2, ob_some, if_pos rfl]
theorem op_peek : OP_peek RR := by
  intro x_hasImage f_places f_kinds f_weights f_howManyGenerators f_generators f_racks f_howManySeen f_seenFirst f_seenSecond f_seenIs f_seenPlaces f_howManyEvents f_eventWhat f_eventNumber g_places g_kinds g_weights g_howManyGenerators g_generators g_racks g_howManySeen g_seenFirst g_seenSecond g_seenIs g_seenPlaces g_howManyEvents g_eventWhat g_eventNumber v_keys v_asFound v_found v_turns v_places p_keys p_asFound p_found p_turns p_places i_sort i_howOften i_sorts i_moves n_u u_leasts u_howMany u_known n_w w_leasts w_howMany w_known t_signs t_length t_whole t_begins t_ends r_sorts r_numbers r_length sr ln it z_thrown z_s z_kept z_isKept z_moveMany z_moves z_hands z_troubles z_troubleSorts z_troubleNumbers z_asked z_paint z_leasts z_isSeen z_classMany z_types z_typeCounts z_typeMany z_text z_signs z_at z_lacks z_clauses z_begun z_letters z_firsts z_seconds z_aside z_sorts z_sizes z_items hR p1 p2
  obtain ⟨n, k, m, gk, w, B, hF, hV, hI, hu, hw, ht, hr, hs⟩ := hR
  rcases t_dec p1 with ⟨t, ht6, rfl⟩ | ⟨i1, i2⟩
  · obtain ⟨hA, hL, hS0, ⟨l, hl, hL0⟩, hIt⟩ := hs t ht6
    have hs0 : q_rd z_sorts 6 (nI t) = some (sr t) := by rw [qe_rd _ ht6 (by decide), hA]
    have hl0 : q_rd z_sizes 6 (nI t) = some (nI l) := by rw [qe_rd _ ht6 (by decide), ← hL, hL0]
    rcases hS0 with hm | ⟨s, hs4, hm⟩
    · refine ⟨-9223372036854775808, ?_, Or.inl ⟨t, ht6, rfl, -9223372036854775808, ?_, rfl, RR_mk hF hV hI hu hw ht hr hs⟩⟩
      · unfold f_X10_peek
        rw [t_isT ht6, ob_some, if_neg (show ¬ (1 : Int32) = 0 by decide), hs0, ob_some, if_pos hm]
      · unfold f_X9_peek_t
        rw [t_isC ht6, ob_some, if_neg (show ¬ (1 : Int32) = 0 by decide), hm]
        rfl
    · have hn1 : ¬ nI s = (-1 : Int32) := nI_neg1 (by omega)
      rw [hm] at hs0
      have hh : f_X6_holds (nI s) = some 1 := by
        unfold f_X6_holds
        rw [if_neg hn1]
      rcases sz_dec p2 hl with ⟨v, hv, rfl, e⟩ | ⟨h, e⟩
      · refine ⟨it t v, ?_, Or.inl ⟨t, ht6, rfl, it t v, ?_, rfl, RR_mk hF hV hI hu hw ht hr hs⟩⟩
        · unfold f_X10_peek
          rw [t_isT ht6, ob_some, if_neg (show ¬ (1 : Int32) = 0 by decide), hs0, ob_some, if_neg hn1, hl0, ob_some, e, ob_some, if_neg (show ¬ (1 : Int32) = 0 by decide), li_60, nI_mul, nI_add, qe_rd _ (by omega) (by decide), ob_some, hIt v (by omega)]
        · unfold f_X9_peek_t
          rw [t_isC ht6, ob_some, if_neg (show ¬ (1 : Int32) = 0 by decide), hm, hh, ob_some, if_neg (show ¬ (1 : Int32) = 0 by decide), if_neg (nI_pos (by omega)), hL0, if_neg (nI_ge hv (by omega)), qe_rd _ (by omega) (by decide), ob_some]
      · refine ⟨-9223372036854775808, ?_, Or.inl ⟨t, ht6, rfl, -9223372036854775808, ?_, rfl, RR_mk hF hV hI hu hw ht hr hs⟩⟩
        · unfold f_X10_peek
          rw [t_isT ht6, ob_some, if_neg (show ¬ (1 : Int32) = 0 by decide), hs0, ob_some, if_neg hn1, hl0, ob_some, e, ob_some, if_pos rfl]
        · unfold f_X9_peek_t
          rw [t_isC ht6, ob_some, if_neg (show ¬ (1 : Int32) = 0 by decide), hm, hh, ob_some, if_neg (show ¬ (1 : Int32) = 0 by decide), hL0]
          by_cases q : p2 < 0
          · rw [if_pos q]
          · rw [if_neg q, if_pos (h.resolve_left q)]
  · refine ⟨-9223372036854775808, ?_, Or.inr ⟨-9223372036854775808, ?_, rfl, RR_mk hF hV hI hu hw ht hr hs⟩⟩
    · unfold f_X10_peek
      rw [i1, ob_some, if_pos rfl]
    · unfold f_X9_peek_n
      rw [i2, ob_some, if_pos rfl]
