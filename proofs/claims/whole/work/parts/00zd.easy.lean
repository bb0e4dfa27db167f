-- ===== the steps: what touches fields alone =====
theorem r_in {x : Int32} {lo hi : Int32} : f_X10_in (x.toInt64) (lo.toInt64) (hi.toInt64) = some (if lo ≤ x ∧ x ≤ hi then 1 else 0) := by
  unfold f_X10_in lg_cmp
  sorry
theorem op_places : OP_places RR := by
  intro x_hasImage f_places f_kinds f_weights f_howManyGenerators f_generators f_racks f_howManySeen f_seenFirst f_seenSecond f_seenIs f_seenPlaces f_howManyEvents f_eventWhat f_eventNumber g_places g_kinds g_weights g_howManyGenerators g_generators g_racks g_howManySeen g_seenFirst g_seenSecond g_seenIs g_seenPlaces g_howManyEvents g_eventWhat g_eventNumber v_keys v_asFound v_found v_turns v_places p_keys p_asFound p_found p_turns p_places i_sort i_howOften i_sorts i_moves n_u u_leasts u_howMany u_known n_w w_leasts w_howMany w_known t_signs t_length t_whole t_begins t_ends r_sorts r_numbers r_length sr ln it z_thrown z_s z_kept z_isKept z_moveMany z_moves z_hands z_troubles z_troubleSorts z_troubleNumbers z_asked z_paint z_leasts z_isSeen z_classMany z_types z_typeCounts z_typeMany z_text z_signs z_at z_lacks z_clauses z_begun z_letters z_firsts z_seconds z_aside z_sorts z_sizes z_items hR p1
  obtain ⟨n, k, m, gk, w, B, hF, hV, hI, hu, hw, ht, hr, hs⟩ := hR
  sorry
theorem op_kinds : OP_kinds RR := by
  intro x_hasImage f_places f_kinds f_weights f_howManyGenerators f_generators f_racks f_howManySeen f_seenFirst f_seenSecond f_seenIs f_seenPlaces f_howManyEvents f_eventWhat f_eventNumber g_places g_kinds g_weights g_howManyGenerators g_generators g_racks g_howManySeen g_seenFirst g_seenSecond g_seenIs g_seenPlaces g_howManyEvents g_eventWhat g_eventNumber v_keys v_asFound v_found v_turns v_places p_keys p_asFound p_found p_turns p_places i_sort i_howOften i_sorts i_moves n_u u_leasts u_howMany u_known n_w w_leasts w_howMany w_known t_signs t_length t_whole t_begins t_ends r_sorts r_numbers r_length sr ln it z_thrown z_s z_kept z_isKept z_moveMany z_moves z_hands z_troubles z_troubleSorts z_troubleNumbers z_asked z_paint z_leasts z_isSeen z_classMany z_types z_typeCounts z_typeMany z_text z_signs z_at z_lacks z_clauses z_begun z_letters z_firsts z_seconds z_aside z_sorts z_sizes z_items hR p1
  obtain ⟨n, k, m, gk, w, B, hF, hV, hI, hu, hw, ht, hr, hs⟩ := hR
  sorry
