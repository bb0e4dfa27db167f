-- ===== the steps: see, event, image, undo =====
theorem DI_mono {n lo k j v : Nat} {x : Int32} (hkj : k ≤ j) (h : DI n lo k x v) : DI n lo j x v := ⟨h.1, h.2.1, h.2.2.1, fun p hp => ⟨(h.2.2.2 p hp).1, by have := (h.2.2.2 p hp).2; omega⟩⟩
theorem op_see : OP_see RR := by
  intro x_hasImage f_places f_kinds f_weights f_howManyGenerators f_generators f_racks f_howManySeen f_seenFirst f_seenSecond f_seenIs f_seenPlaces f_howManyEvents f_eventWhat f_eventNumber g_places g_kinds g_weights g_howManyGenerators g_generators g_racks g_howManySeen g_seenFirst g_seenSecond g_seenIs g_seenPlaces g_howManyEvents g_eventWhat g_eventNumber v_keys v_asFound v_found v_turns v_places p_keys p_asFound p_found p_turns p_places i_sort i_howOften i_sorts i_moves n_u u_leasts u_howMany u_known n_w w_leasts w_howMany w_known t_signs t_length t_whole t_begins t_ends r_sorts r_numbers r_length sr ln it z_thrown z_s z_kept z_isKept z_moveMany z_moves z_hands z_troubles z_troubleSorts z_troubleNumbers z_asked z_paint z_leasts z_isSeen z_classMany z_types z_typeCounts z_typeMany z_text z_signs z_at z_lacks z_clauses z_begun z_letters z_firsts z_seconds z_aside z_sorts z_sizes z_items hR p1 p2 p3
  obtain ⟨n, k, m, gk, w, B, hF, hV, hI, hu, hw, ht, hr, hs⟩ := hR
  have hF' := hF
  obtain ⟨hb, ⟨rfl, rfl, rfl⟩, ⟨hz0, hz1, hz2⟩, hw4, hG, hK, hS, hE⟩ := hF
  have hV' := hV
  obtain ⟨hB, ⟨hKy, hAs, rfl, rfl⟩, rfl⟩ := hV
  have hm4 := hb.2.2.2.2
  have h2n := hb.1
  have h6 := hb.2.1
  have hk1 := hb.2.2.1
  have hk4 := hb.2.2.2.1
  have hKS := KS_of hb hG hB
  have hl := hKS.2
  have hL := srt_len B
  have hpos : 0 < B.length := List.length_pos_of_mem hKS.1.2.2.1
  obtain ⟨mv', hd', hM, e1⟩ := r_moves_ (mv := z_moves) (hd := z_hands) (mm := z_moveMany) hb.2.1 hm4 (ZG_of hz0 hz2 hG) (fun i hi => (hG i hi).1) hB
  obtain ⟨c, hc5, hfs, hz3, hSj⟩ := hS
  subst hfs
  have e3 : q_rd z_s 82 3 = some (nI c) := by rw [li_3, qe_rd _ (by decide) (by decide), hz3]
  by_cases hm1 : p1 = -1
  · have hx : ∀ x, ¬ x = 3 → upd z_s 3 0 x = z_s x := fun x h => upd_ne _ h
    refine ⟨(0, upd z_s 3 0), ?_, (0, 0, f_seenFirst, f_seenSecond, f_seenIs, f_seenPlaces), ?_, rfl, RR_mk (n := n) (k := k) (m := m) (gk := gk) (w := w) (B := B) ⟨hb, ⟨rfl, rfl, rfl⟩, ⟨(hx 0 (by omega)).trans hz0, (hx 1 (by omega)).trans hz1, (hx 2 (by omega)).trans hz2⟩, fun j hj => ⟨(hw4 j hj).1, (hw4 j hj).2.1, (hx _ (by omega)).trans (hw4 j hj).2.2⟩, FG_cong hm4 h6 hG (fun x h1 h2 => hx x (by omega)), FK_cong hK (fun x h1 h2 => hx x (by omega)), ⟨0, by omega, rfl, (show upd z_s 3 0 3 = 0 from upd_at _ _ _), fun j hj => by omega⟩, FE_cong hE (hx 4 (by omega)) (fun x h1 h2 => hx x (by omega))⟩ hV' hI hu hw ht hr hs⟩
    · unfold f_X10_see
      rw [if_pos hm1, show q_wt z_s 82 3 0 = _ from qe_wt (i := 3) _ _ (by decide) (by decide), ob_some]
    · unfold f_X9_see
      rw [if_pos hm1]
  · by_cases hd : ∃ v, DI n 0 k p1 v
    · obtain ⟨v, hv⟩ := hd
      have hP := pc_Pt h6 hk4 hv
      by_cases hd2 : ∃ v, DI n 0 k p2 v
      · obtain ⟨v2, hv2⟩ := hd2
        have hQ := pc_Pt h6 hk4 hv2
        by_cases hf : c = 5
        · subst hf
          refine ⟨(-4, z_s), ?_, (-4, nI 5, f_seenFirst, f_seenSecond, f_seenIs, f_seenPlaces), ?_, rfl, RR_mk hF' hV' hI hu hw ht hr hs⟩
          · unfold f_X10_see
            rw [if_neg hm1, r_indexOf h6 hk4 hz0 hz1 hv, ob_some, if_neg (idx_ne h6 hk4 hP), r_indexOf h6 hk4 hz0 hz1 hv2, ob_some, if_neg (idx_ne h6 hk4 hQ), e3, ob_some, if_pos (show nI 5 = (5 : Int32) from rfl)]
          · unfold f_X9_see f_X3_addSeen
            rw [if_neg hm1, e_pp h6 (by omega) hv, ob_some, e_pp h6 (by omega) hv2, ob_some, if_neg (nI_pos (Pt_31 hP)), if_pos (nI_pos' (Pt_31 hQ)), if_neg (show ¬ nI 5 < (5 : Int32) by decide), ob_some, if_pos rfl]
            split <;> rfl
        · obtain ⟨i, hi1, hi2⟩ : ∃ i : Nat, i ≤ 1 ∧ (if p3 = 0 then (0 : Int32) else 1) = nI i := by
            by_cases h : p3 = 0
            · exact ⟨0, by omega, if_pos h⟩
            · exact ⟨1, by omega, if_neg h⟩
          let zz : Nat → Int32 := upd (upd (upd (upd (upd z_s (46 + 4 * c) p1) (46 + 4 * c + 1) p2) (46 + 4 * c + 2) (nI i)) (46 + 4 * c + 3) (nI n)) 3 (nI (c + 1))
          have hx : ∀ x, ¬ (x = 3 ∨ 46 + 4 * c ≤ x ∧ x < 46 + 4 * c + 4) → zz x = z_s x := fun x h => by
            show upd (upd (upd (upd (upd z_s (46 + 4 * c) p1) (46 + 4 * c + 1) p2) (46 + 4 * c + 2) (nI i)) (46 + 4 * c + 3) (nI n)) 3 (nI (c + 1)) x = _
            rw [upd_ne _ (by omega), upd_ne _ (by omega), upd_ne _ (by omega), upd_ne _ (by omega), upd_ne _ (by omega)]
          have g0 : zz (46 + 4 * c) = p1 := by
            show upd (upd (upd (upd (upd z_s (46 + 4 * c) p1) (46 + 4 * c + 1) p2) (46 + 4 * c + 2) (nI i)) (46 + 4 * c + 3) (nI n)) 3 (nI (c + 1)) (46 + 4 * c) = _
            rw [upd_ne _ (by omega), upd_ne _ (by omega), upd_ne _ (by omega), upd_ne _ (by omega), upd_at]
          have g1 : zz (46 + 4 * c + 1) = p2 := by
            show upd (upd (upd (upd (upd z_s (46 + 4 * c) p1) (46 + 4 * c + 1) p2) (46 + 4 * c + 2) (nI i)) (46 + 4 * c + 3) (nI n)) 3 (nI (c + 1)) (46 + 4 * c + 1) = _
            rw [upd_ne _ (by omega), upd_ne _ (by omega), upd_ne _ (by omega), upd_at]
          have g2 : zz (46 + 4 * c + 2) = nI i := by
            show upd (upd (upd (upd (upd z_s (46 + 4 * c) p1) (46 + 4 * c + 1) p2) (46 + 4 * c + 2) (nI i)) (46 + 4 * c + 3) (nI n)) 3 (nI (c + 1)) (46 + 4 * c + 2) = _
            rw [upd_ne _ (by omega), upd_ne _ (by omega), upd_at]
          have g3 : zz (46 + 4 * c + 3) = nI n := by
            show upd (upd (upd (upd (upd z_s (46 + 4 * c) p1) (46 + 4 * c + 1) p2) (46 + 4 * c + 2) (nI i)) (46 + 4 * c + 3) (nI n)) 3 (nI (c + 1)) (46 + 4 * c + 3) = _
            rw [upd_ne _ (by omega), upd_at]
          refine ⟨(nI (c + 1), zz), ?_, (nI (c + 1), nI (c + 1), upd f_seenFirst c (nI (pcode n v)), upd f_seenSecond c (nI (pcode n v2)), upd f_seenIs c (nI i), upd f_seenPlaces c (nI n)), ?_, rfl, RR_mk (n := n) (k := k) (m := m) (gk := gk) (w := w) (B := B) ⟨hb, ⟨rfl, rfl, rfl⟩, ⟨(hx 0 (by omega)).trans hz0, (hx 1 (by omega)).trans hz1, (hx 2 (by omega)).trans hz2⟩, fun j hj => ⟨(hw4 j hj).1, (hw4 j hj).2.1, (hx _ (by omega)).trans (hw4 j hj).2.2⟩, FG_cong hm4 h6 hG (fun x h1 h2 => hx x (by omega)), FK_cong hK (fun x h1 h2 => hx x (by omega)), ⟨c + 1, by omega, rfl, (show zz 3 = nI (c + 1) from upd_at _ _ _), fun j hj => ?_⟩, FE_cong hE (hx 4 (by omega)) (fun x h1 h2 => hx x (by omega))⟩ hV' hI hu hw ht hr hs⟩
          · have r0 : ∀ q : Nat → Int32, q 0 = nI n → q_rd q 82 0 = some (nI n) := fun q h => rd0 h
            have r3 : ∀ q : Nat → Int32, ∀ u, q 3 = u → q_rd q 82 3 = some u := fun q u h => by rw [li_3, qe_rd _ (by decide) (by decide), h]
            unfold f_X10_see
            rw [if_neg hm1, r_indexOf h6 hk4 hz0 hz1 hv, ob_some, if_neg (idx_ne h6 hk4 hP), r_indexOf h6 hk4 hz0 hz1 hv2, ob_some, if_neg (idx_ne h6 hk4 hQ), e3, ob_some, if_neg (show ¬ nI c = (5 : Int32) from fun q => hf (nI_inj (a := c) (b := 5) (by omega) (by omega) q)), ob_some, show (46 : Int32) + (4 * nI c) = nI (46 + 4 * c) from by rw [li_4, li_46, nI_mul, nI_add], qe_wt _ _ (by omega) (by decide), ob_some, nI_1, qe_wt _ _ (by omega) (by decide), ob_some, show nI (46 + 4 * c) + 2 = nI (46 + 4 * c + 2) from nI_add _ 2, show nI (46 + 4 * c) + 3 = nI (46 + 4 * c + 3) from nI_add _ 3]
            have fin : ∀ y : Int32, y = nI i → ((q_wt (upd (upd z_s (46 + 4 * c) p1) (46 + 4 * c + 1) p2) 82 (nI (46 + 4 * c + 2)) y).bind fun t12 => (q_rd t12 82 0).bind fun t13 => (q_wt t12 82 (nI (46 + 4 * c + 3)) t13).bind fun t14 => (q_rd t14 82 3).bind fun t15 => (q_wt t14 82 3 (t15 + 1)).bind fun t16 => (q_rd t16 82 3).bind fun t17 => some (t17, t16)) = some (nI (c + 1), zz) := by
              rintro y rfl
              rw [qe_wt _ _ (by omega) (by decide), ob_some, r0 _ (by rw [upd_ne _ (by omega), upd_ne _ (by omega), upd_ne _ (by omega)]; exact hz0), ob_some, qe_wt _ _ (by omega) (by decide), ob_some, r3 _ (nI c) (by rw [upd_ne _ (by omega), upd_ne _ (by omega), upd_ne _ (by omega), upd_ne _ (by omega)]; exact hz3), ob_some, nI_1, show ∀ q : Nat → Int32, q_wt q 82 3 (nI (c + 1)) = some (upd q 3 (nI (c + 1))) from fun q => qe_wt (i := 3) _ _ (by decide) (by decide), ob_some, r3 _ (nI (c + 1)) (upd_at _ _ _), ob_some]
            by_cases h : p3 = 0
            · rw [if_pos h]
              rw [if_pos h] at hi2
              exact fin 0 hi2
            · rw [if_neg h]
              rw [if_neg h] at hi2
              exact fin 1 hi2
          · unfold f_X9_see f_X3_addSeen
            rw [if_neg hm1, e_pp h6 (by omega) hv, ob_some, e_pp h6 (by omega) hv2, ob_some, if_neg (nI_pos (Pt_31 hP)), if_pos (nI_pos' (Pt_31 hQ)), if_pos (show nI c < (5 : Int32) from nI_lt (a := c) (b := 5) (by omega) (by decide)), qe_wt _ _ (by omega) (by decide), ob_some, qe_wt _ _ (by omega) (by decide), ob_some, qe_wt _ _ (by omega) (by decide), ob_some, qe_wt _ _ (by omega) (by decide), ob_some, nI_1]
            by_cases h : p3 = 0
            · rw [if_pos h] at hi2 ⊢
              rw [ob_some, if_neg (show ¬ (1 : Int32) = 0 by decide), hi2]
            · rw [if_neg h] at hi2 ⊢
              rw [if_pos (show nI c < (5 : Int32) from nI_lt (a := c) (b := 5) (by omega) (by decide)), ob_some, ob_some, qe_wt _ _ (by omega) (by decide), ob_some, ob_some, ob_some, if_neg (show ¬ (1 : Int32) = 0 by decide), hi2]
          · show SR (upd f_seenFirst c (nI (pcode n v)) j) (upd f_seenSecond c (nI (pcode n v2)) j) (upd f_seenIs c (nI i) j) (upd f_seenPlaces c (nI n) j) (zz (46 + 4 * j)) (zz (46 + 4 * j + 1)) (zz (46 + 4 * j + 2)) (zz (46 + 4 * j + 3))
            by_cases e : j = c
            · subst e
              rw [upd_at, upd_at, upd_at, upd_at, g0, g1, g2, g3]
              exact ⟨n, v, v2, i, h2n, h6, hi1, rfl, rfl, rfl, rfl, DI_mono hk4 hv, DI_mono hk4 hv2, rfl, rfl⟩
            · rw [upd_ne _ e, upd_ne _ e, upd_ne _ e, upd_ne _ e, hx _ (by omega), hx _ (by omega), hx _ (by omega), hx _ (by omega)]
              exact hSj j (by omega)
      · refine ⟨(-2, z_s), ?_, (-2, nI c, f_seenFirst, f_seenSecond, f_seenIs, f_seenPlaces), ?_, rfl, RR_mk hF' hV' hI hu hw ht hr hs⟩
        · unfold f_X10_see
          rw [if_neg hm1, r_indexOf h6 hk4 hz0 hz1 hv, ob_some, if_neg (idx_ne h6 hk4 hP), r_indexOf_no (by omega) h6 hk4 hz0 hz1 hd2, ob_some, if_pos rfl]
        · unfold f_X9_see
          rw [if_neg hm1, e_pp h6 (by omega) hv, ob_some, e_pp_no h6 (by omega) hd2, ob_some, if_neg (nI_pos (Pt_31 hP)), if_neg (by decide)]
    · obtain ⟨w2, hw2⟩ : ∃ w2, f_X9_packedPainting p2 (nI n) (nI k) = some w2 := by
        by_cases hd2 : ∃ v, DI n 0 k p2 v
        · obtain ⟨v2, hv2⟩ := hd2
          exact ⟨_, e_pp h6 (by omega) hv2⟩
        · exact ⟨_, e_pp_no h6 (by omega) hd2⟩
      refine ⟨(-2, z_s), ?_, (-2, nI c, f_seenFirst, f_seenSecond, f_seenIs, f_seenPlaces), ?_, rfl, RR_mk hF' hV' hI hu hw ht hr hs⟩
      · unfold f_X10_see
        rw [if_neg hm1, r_indexOf_no (by omega) h6 hk4 hz0 hz1 hd, ob_some, if_pos rfl]
      · unfold f_X9_see
        rw [if_neg hm1, e_pp_no h6 (by omega) hd, ob_some, hw2, ob_some, if_pos m1_lt]
theorem op_event : OP_event RR := by
  intro x_hasImage f_places f_kinds f_weights f_howManyGenerators f_generators f_racks f_howManySeen f_seenFirst f_seenSecond f_seenIs f_seenPlaces f_howManyEvents f_eventWhat f_eventNumber g_places g_kinds g_weights g_howManyGenerators g_generators g_racks g_howManySeen g_seenFirst g_seenSecond g_seenIs g_seenPlaces g_howManyEvents g_eventWhat g_eventNumber v_keys v_asFound v_found v_turns v_places p_keys p_asFound p_found p_turns p_places i_sort i_howOften i_sorts i_moves n_u u_leasts u_howMany u_known n_w w_leasts w_howMany w_known t_signs t_length t_whole t_begins t_ends r_sorts r_numbers r_length sr ln it z_thrown z_s z_kept z_isKept z_moveMany z_moves z_hands z_troubles z_troubleSorts z_troubleNumbers z_asked z_paint z_leasts z_isSeen z_classMany z_types z_typeCounts z_typeMany z_text z_signs z_at z_lacks z_clauses z_begun z_letters z_firsts z_seconds z_aside z_sorts z_sizes z_items hR p1 p2
  obtain ⟨n, k, m, gk, w, B, hF, hV, hI, hu, hw, ht, hr, hs⟩ := hR
  have hF' := hF
  obtain ⟨hb, ⟨rfl, rfl, rfl⟩, ⟨hz0, hz1, hz2⟩, hw4, hG, hK, hS, ⟨c, hc8, hfe, hz4, hEj⟩⟩ := hF
  subst hfe
  have hm4 := hb.2.2.2.2
  have h6 := hb.2.1
  have e4 : ∀ q : Nat → Int32, ∀ u, q 4 = u → q_rd q 82 4 = some u := fun q u h => by rw [li_4, qe_rd _ (by decide) (by decide), h]
  have w4 : ∀ (q : Nat → Int32) (u : Int32), q_wt q 82 4 u = some (upd q 4 u) := fun q u => qe_wt (i := 4) _ _ (by decide) (by decide)
  have ein1 : f_X10_in (p1.toInt64) 0 2 = some (if (0 : Int32) ≤ p1 ∧ p1 ≤ 2 then 1 else 0) := r_inN (by decide) (by decide)
  have ein2 : f_X10_in (p2.toInt64) 1 4 = some (if (1 : Int32) ≤ p2 ∧ p2 ≤ 4 then 1 else 0) := r_inN (by decide) (by decide)
  have ein3 : f_X10_in (p2.toInt64) 0 3 = some (if (0 : Int32) ≤ p2 ∧ p2 ≤ 3 then 1 else 0) := r_inN (by decide) (by decide)
  by_cases hm1 : p1 = -1
  · have hx : ∀ x, ¬ x = 4 → upd z_s 4 0 x = z_s x := fun x h => upd_ne _ h
    refine ⟨(0, upd z_s 4 0), ?_, (0, 0, f_eventWhat, f_eventNumber), ?_, rfl, RR_mk (n := n) (k := k) (m := m) (gk := gk) (w := w) (B := B) ⟨hb, ⟨rfl, rfl, rfl⟩, ⟨(hx 0 (by omega)).trans hz0, (hx 1 (by omega)).trans hz1, (hx 2 (by omega)).trans hz2⟩, fun j hj => ⟨(hw4 j hj).1, (hw4 j hj).2.1, (hx _ (by omega)).trans (hw4 j hj).2.2⟩, FG_cong hm4 h6 hG (fun x h1 h2 => hx x (by omega)), FK_cong hK (fun x h1 h2 => hx x (by omega)), FS_cong hS (hx 3 (by omega)) (fun x h1 h2 => hx x (by omega)), ⟨0, by omega, rfl, (show upd z_s 4 0 4 = 0 from upd_at _ _ _), fun j hj => by omega⟩⟩ hV hI hu hw ht hr hs⟩
    · unfold f_X10_event
      rw [if_pos hm1, w4, ob_some]
    · unfold f_X9_event
      rw [if_pos hm1]
  · -- one more row
    have hmore : ∀ a b : Int32, p1 = a → p2 = b → ER a b → c < 8 → RR x_hasImage (nI n) (nI k) f_weights (nI m) f_generators f_racks f_howManySeen f_seenFirst f_seenSecond f_seenIs f_seenPlaces (nI (c + 1)) (upd f_eventWhat c p1) (upd f_eventNumber c p2) g_places g_kinds g_weights g_howManyGenerators g_generators g_racks g_howManySeen g_seenFirst g_seenSecond g_seenIs g_seenPlaces g_howManyEvents g_eventWhat g_eventNumber v_keys v_asFound v_found v_turns v_places p_keys p_asFound p_found p_turns p_places i_sort i_howOften i_sorts i_moves n_u u_leasts u_howMany u_known n_w w_leasts w_howMany w_known t_signs t_length t_whole t_begins t_ends r_sorts r_numbers r_length sr ln it z_thrown (upd (upd (upd z_s (66 + 2 * c) p1) (66 + 2 * c + 1) p2) 4 (nI (c + 1))) z_kept z_isKept z_moveMany z_moves z_hands z_troubles z_troubleSorts z_troubleNumbers z_asked z_paint z_leasts z_isSeen z_classMany z_types z_typeCounts z_typeMany z_text z_signs z_at z_lacks z_clauses z_begun z_letters z_firsts z_seconds z_aside z_sorts z_sizes z_items := by
      rintro a b rfl rfl hER hlt
      have hx : ∀ x, ¬ (x = 4 ∨ x = 66 + 2 * c ∨ x = 66 + 2 * c + 1) → upd (upd (upd z_s (66 + 2 * c) p1) (66 + 2 * c + 1) p2) 4 (nI (c + 1)) x = z_s x := fun x h => by
        rw [upd_ne _ (by omega), upd_ne _ (by omega), upd_ne _ (by omega)]
      refine RR_mk (n := n) (k := k) (m := m) (gk := gk) (w := w) (B := B) ⟨hb, ⟨rfl, rfl, rfl⟩, ⟨(hx 0 (by omega)).trans hz0, (hx 1 (by omega)).trans hz1, (hx 2 (by omega)).trans hz2⟩, fun j hj => ⟨(hw4 j hj).1, (hw4 j hj).2.1, (hx _ (by omega)).trans (hw4 j hj).2.2⟩, FG_cong hm4 h6 hG (fun x h1 h2 => hx x (by omega)), FK_cong hK (fun x h1 h2 => hx x (by omega)), FS_cong hS (hx 3 (by omega)) (fun x h1 h2 => hx x (by omega)), ⟨c + 1, by omega, rfl, upd_at _ _ _, fun j hj => ?_⟩⟩ hV hI hu hw ht hr hs
      by_cases e : j = c
      · subst e
        rw [upd_at, upd_at, upd_ne (k := 4) _ (by omega), upd_ne (k := 66 + 2 * j + 1) _ (by omega), upd_at, upd_ne (k := 4) _ (by omega), upd_at]
        exact ⟨rfl, rfl, hER⟩
      · rw [upd_ne _ e, upd_ne _ e, hx _ (by omega), hx _ (by omega)]
        exact hEj j (by omega)
    have hadd : c < 8 → f_X3_addEvent p1 p2 (nI c) f_eventWhat f_eventNumber = some (1, nI (c + 1), upd f_eventWhat c p1, upd f_eventNumber c p2) := fun h => by
      unfold f_X3_addEvent
      rw [if_pos (show nI c < (8 : Int32) from nI_lt (a := c) (b := 8) h (by decide)), qe_wt _ _ (by omega) (by decide), ob_some, qe_wt _ _ (by omega) (by decide), ob_some, nI_1]
    have hadd0 : c = 8 → f_X3_addEvent p1 p2 (nI c) f_eventWhat f_eventNumber = some (0, nI c, f_eventWhat, f_eventNumber) := fun h => by
      unfold f_X3_addEvent
      rw [h, if_neg (by decide)]
    have href : c < 8 → ((q_rd z_s 82 4).bind fun t20 => (q_wt z_s 82 (66 + (2 * t20)) p1).bind fun t21 => (q_rd t21 82 4).bind fun t22 => (q_wt t21 82 ((66 + (2 * t22)) + 1) p2).bind fun t23 => (q_rd t23 82 4).bind fun t24 => (q_wt t23 82 4 (t24 + 1)).bind fun t25 => (q_rd t25 82 4).bind fun t26 => some (t26, t25)) = some (nI (c + 1), upd (upd (upd z_s (66 + 2 * c) p1) (66 + 2 * c + 1) p2) 4 (nI (c + 1))) := fun h => by
      rw [e4 z_s _ hz4, ob_some, show (66 : Int32) + (2 * nI c) = nI (66 + 2 * c) from by rw [li_2, li_66, nI_mul, nI_add], qe_wt _ _ (by omega) (by decide), ob_some, e4 (upd z_s (66 + 2 * c) p1) (nI c) (by rw [upd_ne _ (by omega)]; exact hz4), ob_some, show (66 : Int32) + (2 * nI c) = nI (66 + 2 * c) from by rw [li_2, li_66, nI_mul, nI_add], nI_1, qe_wt _ _ (by omega) (by decide), ob_some, e4 _ (nI c) (by rw [upd_ne _ (by omega), upd_ne _ (by omega)]; exact hz4), ob_some, nI_1, w4, ob_some, e4 _ (nI (c + 1)) (upd_at _ _ _), ob_some]
    by_cases hin1 : (0 : Int32) ≤ p1 ∧ p1 ≤ 2
    · have d1 : ¬ p1 < 0 := nlt_le.mpr hin1.1
      by_cases h0 : p1 = 0
      · by_cases hin2 : (1 : Int32) ≤ p2 ∧ p2 ≤ 4
        · have d2 : ¬ p2 < 1 := nlt_le.mpr hin2.1
          have d3 : ¬ (4 : Int32) < p2 := nlt_le.mpr hin2.2
          by_cases hf : c = 8
          · refine ⟨(-4, z_s), ?_, (-4, nI c, f_eventWhat, f_eventNumber), ?_, rfl, RR_mk hF' hV hI hu hw ht hr hs⟩
            · unfold f_X10_event
              rw [if_neg hm1, ein1, ob_some, if_pos hin1, if_neg (show ¬ (1 : Int32) = 0 by decide), if_pos h0, ein2, ob_some, if_pos hin2, if_neg (show ¬ (1 : Int32) = 0 by decide), e4 z_s _ hz4, ob_some, if_pos (by rw [hf]; rfl)]
            · unfold f_X9_event
              rw [if_neg hm1, if_neg d1, if_pos hin1.2, if_pos h0, if_neg d2, if_neg d3, hadd0 hf, ob_some, if_pos rfl]
          · refine ⟨(nI (c + 1), upd (upd (upd z_s (66 + 2 * c) p1) (66 + 2 * c + 1) p2) 4 (nI (c + 1))), ?_, (nI (c + 1), nI (c + 1), upd f_eventWhat c p1, upd f_eventNumber c p2), ?_, rfl, hmore p1 p2 rfl rfl (Or.inl ⟨h0, by
              obtain ⟨j, hj1, hj4, e⟩ := in_nat (l := 1) (h := 4) (by decide) (by decide) hin2
              exact ⟨j, hj1, hj4, e⟩⟩) (by omega)⟩
            · have hh := href (by omega)
              unfold f_X10_event
              rw [if_neg hm1, ein1, ob_some, if_pos hin1, if_neg (show ¬ (1 : Int32) = 0 by decide), if_pos h0, ein2, ob_some, if_pos hin2, if_neg (show ¬ (1 : Int32) = 0 by decide), e4 z_s _ hz4, ob_some, if_neg (show ¬ nI c = (8 : Int32) from fun q => hf (nI_inj (a := c) (b := 8) (by omega) (by omega) q))]
              rw [e4 z_s _ hz4] at hh
              exact hh
            · unfold f_X9_event
              rw [if_neg hm1, if_neg d1, if_pos hin1.2, if_pos h0, if_neg d2, if_neg d3, hadd (by omega), ob_some, if_neg (show ¬ (1 : Int32) = 0 by decide)]
        · refine ⟨(-2, z_s), ?_, (-2, nI c, f_eventWhat, f_eventNumber), ?_, rfl, RR_mk hF' hV hI hu hw ht hr hs⟩
          · unfold f_X10_event
            rw [if_neg hm1, ein1, ob_some, if_pos hin1, if_neg (show ¬ (1 : Int32) = 0 by decide), if_pos h0, ein2, ob_some, if_neg hin2, if_pos rfl]
          · unfold f_X9_event
            rw [if_neg hm1, if_neg d1, if_pos hin1.2, if_pos h0]
            by_cases g : p2 < 1
            · rw [if_pos g]
            · rw [if_neg g, if_pos]
              apply lt_nle.mpr
              exact fun q => hin2 ⟨nlt_le.mp g, q⟩
      · by_cases hin3 : (0 : Int32) ≤ p2 ∧ p2 ≤ 3
        · have d2 : ¬ p2 < 0 := nlt_le.mpr hin3.1
          obtain ⟨j, -, hj3, hje⟩ := in_nat (l := 0) (h := 3) (by decide) (by decide) hin3
          have d3 : ¬ (4 : Int32) ≤ p2 := by rw [hje, li_4]; exact nI_ge (by omega) (by decide)
          have hER : ER p1 p2 := by
            obtain ⟨v, -, hv, hve⟩ := in_nat (l := 0) (h := 2) (by decide) (by decide) hin1
            rcases (show v = 0 ∨ v = 1 ∨ v = 2 by omega) with rfl | rfl | rfl
            · exact absurd hve h0
            · exact Or.inr (Or.inl ⟨hve, j, by omega, hje⟩)
            · exact Or.inr (Or.inr ⟨hve, j, by omega, hje⟩)
          by_cases hf : c = 8
          · refine ⟨(-4, z_s), ?_, (-4, nI c, f_eventWhat, f_eventNumber), ?_, rfl, RR_mk hF' hV hI hu hw ht hr hs⟩
            · unfold f_X10_event
              rw [if_neg hm1, ein1, ob_some, if_pos hin1, if_neg (show ¬ (1 : Int32) = 0 by decide), if_neg h0, ein3, ob_some, if_pos hin3, if_neg (show ¬ (1 : Int32) = 0 by decide), e4 z_s _ hz4, ob_some, if_pos (by rw [hf]; rfl)]
            · unfold f_X9_event
              rw [if_neg hm1, if_neg d1, if_pos hin1.2, if_neg h0, if_neg d2, if_neg d3, hadd0 hf, ob_some, if_pos rfl]
          · refine ⟨(nI (c + 1), upd (upd (upd z_s (66 + 2 * c) p1) (66 + 2 * c + 1) p2) 4 (nI (c + 1))), ?_, (nI (c + 1), nI (c + 1), upd f_eventWhat c p1, upd f_eventNumber c p2), ?_, rfl, hmore p1 p2 rfl rfl hER (by omega)⟩
            · have hh := href (by omega)
              unfold f_X10_event
              rw [if_neg hm1, ein1, ob_some, if_pos hin1, if_neg (show ¬ (1 : Int32) = 0 by decide), if_neg h0, ein3, ob_some, if_pos hin3, if_neg (show ¬ (1 : Int32) = 0 by decide), e4 z_s _ hz4, ob_some, if_neg (show ¬ nI c = (8 : Int32) from fun q => hf (nI_inj (a := c) (b := 8) (by omega) (by omega) q))]
              rw [e4 z_s _ hz4] at hh
              exact hh
            · unfold f_X9_event
              rw [if_neg hm1, if_neg d1, if_pos hin1.2, if_neg h0, if_neg d2, if_neg d3, hadd (by omega), ob_some, if_neg (show ¬ (1 : Int32) = 0 by decide)]
        · refine ⟨(-2, z_s), ?_, (-2, nI c, f_eventWhat, f_eventNumber), ?_, rfl, RR_mk hF' hV hI hu hw ht hr hs⟩
          · unfold f_X10_event
            rw [if_neg hm1, ein1, ob_some, if_pos hin1, if_neg (show ¬ (1 : Int32) = 0 by decide), if_neg h0, ein3, ob_some, if_neg hin3, if_pos rfl]
          · unfold f_X9_event
            rw [if_neg hm1, if_neg d1, if_pos hin1.2, if_neg h0]
            by_cases g : p2 < 0
            · rw [if_pos g]
            · rw [if_neg g, if_pos]
              rw [fa_le, fa_le, show (0 : Int32).toInt = 0 from by decide, show (3 : Int32).toInt = 3 from by decide] at hin3
              rw [fa_lt, show (0 : Int32).toInt = 0 from by decide] at g
              rw [fa_le, show (4 : Int32).toInt = 4 from by decide]
              omega
    · refine ⟨(-1, z_s), ?_, (-1, nI c, f_eventWhat, f_eventNumber), ?_, rfl, RR_mk hF' hV hI hu hw ht hr hs⟩
      · unfold f_X10_event
        rw [if_neg hm1, ein1, ob_some, if_neg hin1, if_pos rfl]
      · unfold f_X9_event
        rw [if_neg hm1]
        by_cases d1 : p1 < 0
        · rw [if_pos d1]
        · rw [if_neg d1, if_neg (fun q => hin1 ⟨nlt_le.mp d1, q⟩)]
-- copies
theorem r_copies_L (za : Nat → Int32) (K : Int32 → (Nat → Int32) → Option (Nat → Int32)) : ∀ d i fu zb, i + d = 82 → d < fu → (∀ x, x < i → zb x = za x) → ∃ zb', (∀ x, x < 82 → zb' x = za x) ∧ f_X10_copies_L2 za K fu (nI i) zb = K (nI 82) zb'
  | d, i, 0, _, _, h, _ => by omega
  | 0, i, fu + 1, zb, hi, _, h => by
    rw [f_X10_copies_L2, li_82, if_pos (nI_le (by omega) (by omega)), show i = 82 by omega]
    exact ⟨zb, fun x hx => h x (by omega), rfl⟩
  | d + 1, i, fu + 1, zb, hi, hfu, h => by
    rw [f_X10_copies_L2, li_82, if_neg (nI_ge (by omega) (by omega)), qe_rd _ (by omega) (by decide), ob_some, qe_wt _ _ (by omega) (by decide), ob_some, nI_1]
    refine r_copies_L za K d (i + 1) fu _ (by omega) (by omega) (fun x hx => ?_)
    by_cases e : x = i
    · rw [e, upd_at]
    · rw [upd_ne _ e]; exact h x (by omega)
theorem r_copies (za zb : Nat → Int32) : ∃ zb', (∀ x, x < 82 → zb' x = za x) ∧ f_X10_copies za zb = some zb' := by
  unfold f_X10_copies
  exact r_copies_L za (fun _ a => some a) 82 0 q_fu zb (by omega) (fu_lt (by omega)) (fun x hx => by omega)
theorem cpy_in {f g : Nat → Int32} {c j : Nat} (h : j < c) : va_cpy f g 0 0 c j = f j := by
  unfold va_cpy
  rw [if_pos (by omega)]
  congr 1
  omega
/-- the same frame in other cells -/
theorem FR_cong {n k m : Nat} {gk w : Nat → Nat} {fp fk fm fs fe : Int32} {fw fg fr s1 s2 si sp ew en z fw' fg' fr' s1' s2' si' sp' ew' en' z' : Nat → Int32} (h : FR n k m gk w fp fk fw fm fg fr fs s1 s2 si sp fe ew en z) (h1 : ∀ j, j < 4 → fw' j = fw j) (h2 : ∀ j, j < 4 → fg' j = fg j) (h3 : ∀ j, j < 9 → fr' j = fr j) (h4 : ∀ j, j < 5 → s1' j = s1 j) (h5 : ∀ j, j < 5 → s2' j = s2 j) (h6 : ∀ j, j < 5 → si' j = si j) (h7 : ∀ j, j < 5 → sp' j = sp j) (h8 : ∀ j, j < 8 → ew' j = ew j) (h9 : ∀ j, j < 8 → en' j = en j) (hz : ∀ x, x < 82 → z' x = z x) : FR n k m gk w fp fk fw' fm fg' fr' fs s1' s2' si' sp' fe ew' en' z' := by
  obtain ⟨hb, hp, ⟨hz0, hz1, hz2⟩, hw4, hG, hK, ⟨c, hc, e1, e2, hS⟩, ⟨d, hd, e3, e4, hE⟩⟩ := h
  have hm4 := hb.2.2.2.2
  have hn6 := hb.2.1
  refine ⟨hb, hp, ⟨(hz 0 (by omega)).trans hz0, (hz 1 (by omega)).trans hz1, (hz 2 (by omega)).trans hz2⟩, fun j hj => ?_, fun g hg => ?_, fun r hr => ?_, ⟨c, hc, e1, (hz 3 (by omega)).trans e2, fun j hj => ?_⟩, ⟨d, hd, e3, (hz 4 (by omega)).trans e4, fun j hj => ?_⟩⟩
  · rw [h1 j hj, hz _ (by omega)]
    exact hw4 j hj
  · obtain ⟨q1, q2, q3, q4⟩ := hG g hg
    exact ⟨q1, by rw [h2 g (by omega)]; exact q2, fun p hp => by rw [hz _ (by omega)]; exact q3 p hp, by rw [hz _ (by omega)]; exact q4⟩
  · rw [h3 r hr, hz _ (by omega)]
    exact hK r hr
  · rw [h4 j (by omega), h5 j (by omega), h6 j (by omega), h7 j (by omega), hz _ (by omega), hz _ (by omega), hz _ (by omega), hz _ (by omega)]
    exact hS j hj
  · rw [h8 j (by omega), h9 j (by omega), hz _ (by omega), hz _ (by omega)]
    exact hE j hj
theorem e_become (fp fk fm fs fe gp gk' gm gs ge : Int32) (fw fg fr s1 s2 si sp ew en gw gg gr t1 t2 ti tp xw xn : Nat → Int32) : f_X3_become fp fk fw fm fg fr fs s1 s2 si sp fe ew en gp gk' gw gm gg gr gs t1 t2 ti tp ge xw xn = some (gp, gk', va_cpy gw fw 0 0 4, gm, va_cpy gg fg 0 0 4, va_cpy gr fr 0 0 9, gs, va_cpy t1 s1 0 0 5, va_cpy t2 s2 0 0 5, va_cpy ti si 0 0 5, va_cpy tp sp 0 0 5, ge, va_cpy xw ew 0 0 8, va_cpy xn en 0 0 8) := by
  unfold f_X3_become
  have h : ∀ (f g : Nat → Int32) (c : Nat), c < 100 → q_cp f g c c (nI 0) (nI 0) (nI c) = some (va_cpy f g 0 0 c) := fun f g c hc => qe_cp _ _ (by omega) (by omega) (by omega) (by omega)
  rw [show q_cp gw fw 4 4 0 0 4 = _ from h gw fw 4 (by decide), ob_some, show q_cp gg fg 4 4 0 0 4 = _ from h gg fg 4 (by decide), ob_some, show q_cp gr fr 9 9 0 0 9 = _ from h gr fr 9 (by decide), ob_some, show q_cp t1 s1 5 5 0 0 5 = _ from h t1 s1 5 (by decide), ob_some, show q_cp t2 s2 5 5 0 0 5 = _ from h t2 s2 5 (by decide), ob_some, show q_cp ti si 5 5 0 0 5 = _ from h ti si 5 (by decide), ob_some, show q_cp tp sp 5 5 0 0 5 = _ from h tp sp 5 (by decide), ob_some, show q_cp xw ew 8 8 0 0 8 = _ from h xw ew 8 (by decide), ob_some, show q_cp xn en 8 8 0 0 8 = _ from h xn en 8 (by decide), ob_some]
theorem op_image : OP_image RR := by
  intro x_hasImage f_places f_kinds f_weights f_howManyGenerators f_generators f_racks f_howManySeen f_seenFirst f_seenSecond f_seenIs f_seenPlaces f_howManyEvents f_eventWhat f_eventNumber g_places g_kinds g_weights g_howManyGenerators g_generators g_racks g_howManySeen g_seenFirst g_seenSecond g_seenIs g_seenPlaces g_howManyEvents g_eventWhat g_eventNumber v_keys v_asFound v_found v_turns v_places p_keys p_asFound p_found p_turns p_places i_sort i_howOften i_sorts i_moves n_u u_leasts u_howMany u_known n_w w_leasts w_howMany w_known t_signs t_length t_whole t_begins t_ends r_sorts r_numbers r_length sr ln it z_thrown z_s z_kept z_isKept z_moveMany z_moves z_hands z_troubles z_troubleSorts z_troubleNumbers z_asked z_paint z_leasts z_isSeen z_classMany z_types z_typeCounts z_typeMany z_text z_signs z_at z_lacks z_clauses z_begun z_letters z_firsts z_seconds z_aside z_sorts z_sizes z_items hR
  obtain ⟨n, k, m, gk, w, B, hF, hV, hI, hu, hw, ht, hr, hs⟩ := hR
  have hF' := hF
  have hV' := hV
  obtain ⟨hb, ⟨hfp, hfk, hfm⟩, ⟨hz0, hz1, hz2⟩, hw4, hG, hK, hS, hE⟩ := hF
  obtain ⟨hB, ⟨hKy, hAs, hvf, hvt⟩, hvp⟩ := hV
  obtain ⟨mv', hd', hM, e1⟩ := r_moves_ (mv := z_moves) (hd := z_hands) (mm := z_moveMany) hb.2.1 hb.2.2.2.2 (ZG_of hz0 hz2 hG) (fun i hi => (hG i hi).1) hB
  obtain ⟨zk, hzk, ek⟩ := r_copies z_s z_kept
  have eb := e_become g_places g_kinds g_howManyGenerators g_howManySeen g_howManyEvents f_places f_kinds f_howManyGenerators f_howManySeen f_howManyEvents g_weights g_generators g_racks g_seenFirst g_seenSecond g_seenIs g_seenPlaces g_eventWhat g_eventNumber f_weights f_generators f_racks f_seenFirst f_seenSecond f_seenIs f_seenPlaces f_eventWhat f_eventNumber
  refine ⟨(nI B.length, zk, 1, nI B.length, mv', hd'), ?_, (v_found, 1, f_places, f_kinds, va_cpy f_weights g_weights 0 0 4, f_howManyGenerators, va_cpy f_generators g_generators 0 0 4, va_cpy f_racks g_racks 0 0 9, f_howManySeen, va_cpy f_seenFirst g_seenFirst 0 0 5, va_cpy f_seenSecond g_seenSecond 0 0 5, va_cpy f_seenIs g_seenIs 0 0 5, va_cpy f_seenPlaces g_seenPlaces 0 0 5, f_howManyEvents, va_cpy f_eventWhat g_eventWhat 0 0 8, va_cpy f_eventNumber g_eventNumber 0 0 8), ?_, hvf, RR_mk hF' hV' (Or.inr ⟨rfl, rfl, n, k, m, gk, w, B, FR_cong hF' (fun j hj => cpy_in hj) (fun j hj => cpy_in hj) (fun j hj => cpy_in hj) (fun j hj => cpy_in hj) (fun j hj => cpy_in hj) (fun j hj => cpy_in hj) (fun j hj => cpy_in hj) (fun j hj => cpy_in hj) (fun j hj => cpy_in hj) hzk, hB⟩) hu hw ht hr hs⟩
  · unfold f_X10_image f_X10_moveCount
    rw [ek, ob_some, e1, ob_some, ob_some]
  · unfold f_X9_image
    rw [eb, ob_some]
theorem op_undo : OP_undo RR := by
  intro x_hasImage f_places f_kinds f_weights f_howManyGenerators f_generators f_racks f_howManySeen f_seenFirst f_seenSecond f_seenIs f_seenPlaces f_howManyEvents f_eventWhat f_eventNumber g_places g_kinds g_weights g_howManyGenerators g_generators g_racks g_howManySeen g_seenFirst g_seenSecond g_seenIs g_seenPlaces g_howManyEvents g_eventWhat g_eventNumber v_keys v_asFound v_found v_turns v_places p_keys p_asFound p_found p_turns p_places i_sort i_howOften i_sorts i_moves n_u u_leasts u_howMany u_known n_w w_leasts w_howMany w_known t_signs t_length t_whole t_begins t_ends r_sorts r_numbers r_length sr ln it z_thrown z_s z_kept z_isKept z_moveMany z_moves z_hands z_troubles z_troubleSorts z_troubleNumbers z_asked z_paint z_leasts z_isSeen z_classMany z_types z_typeCounts z_typeMany z_text z_signs z_at z_lacks z_clauses z_begun z_letters z_firsts z_seconds z_aside z_sorts z_sizes z_items hR
  obtain ⟨n, k, m, gk, w, B, hF, hV, hI, hu, hw, ht, hr, hs⟩ := hR
  obtain ⟨rfl, hk0⟩ | ⟨rfl, hk1, n', k', m', gk', w', B', hFg, hB'⟩ := id hI
  · refine ⟨(-3, z_s, z_moveMany, z_moves, z_hands), ?_, (-3, f_places, f_kinds, f_weights, f_howManyGenerators, f_generators, f_racks, f_howManySeen, f_seenFirst, f_seenSecond, f_seenIs, f_seenPlaces, f_howManyEvents, f_eventWhat, f_eventNumber, v_keys, v_asFound, v_found, v_turns, v_places, u_known, w_known), ?_, rfl, RR_mk hF hV hI hu hw ht hr hs⟩
    · unfold f_X10_undo
      rw [hk0, if_pos rfl]
    · unfold f_X9_undo
      rw [if_pos rfl]
  · obtain ⟨zs', hzs, es⟩ := r_copies z_kept z_s
    have hFn := FR_cong (fw' := va_cpy g_weights f_weights 0 0 4) (fg' := va_cpy g_generators f_generators 0 0 4) (fr' := va_cpy g_racks f_racks 0 0 9) (s1' := va_cpy g_seenFirst f_seenFirst 0 0 5) (s2' := va_cpy g_seenSecond f_seenSecond 0 0 5) (si' := va_cpy g_seenIs f_seenIs 0 0 5) (sp' := va_cpy g_seenPlaces f_seenPlaces 0 0 5) (ew' := va_cpy g_eventWhat f_eventWhat 0 0 8) (en' := va_cpy g_eventNumber f_eventNumber 0 0 8) (z' := zs') hFg (fun j hj => cpy_in hj) (fun j hj => cpy_in hj) (fun j hj => cpy_in hj) (fun j hj => cpy_in hj) (fun j hj => cpy_in hj) (fun j hj => cpy_in hj) (fun j hj => cpy_in hj) (fun j hj => cpy_in hj) (fun j hj => cpy_in hj) hzs
    have hFn' := hFn
    obtain ⟨hb, ⟨hfp, hfk, hfm⟩, ⟨hz0, hz1, hz2⟩, hw4, hG, hK, hS, hE⟩ := hFn
    subst hfp; subst hfm
    obtain ⟨mv', hd', hM, e1⟩ := r_moves_ (mv := z_moves) (hd := z_hands) (mm := z_moveMany) hb.2.1 hb.2.2.2.2 (ZG_of hz0 hz2 hG) (fun i hi => (hG i hi).1) hB'
    obtain ⟨ky, af, fo, tu, hV', eg⟩ := e_growMoves (n := n') (m := m') (gk := gk') (fg := va_cpy g_generators f_generators 0 0 4) (keys := v_keys) (asF := v_asFound) (found := v_found) (turns := v_turns) (pl := v_places) (uk := u_known) (wk' := w_known) hb.2.1 hb.2.2.2.2 (fun g hg => ⟨(hG g hg).1, (hG g hg).2.1⟩) hB'
    have eb := e_become f_places f_kinds f_howManyGenerators f_howManySeen f_howManyEvents (nI n') g_kinds (nI m') g_howManySeen g_howManyEvents f_weights f_generators f_racks f_seenFirst f_seenSecond f_seenIs f_seenPlaces f_eventWhat f_eventNumber g_weights g_generators g_racks g_seenFirst g_seenSecond g_seenIs g_seenPlaces g_eventWhat g_eventNumber
    refine ⟨(nI B'.length, zs', nI B'.length, mv', hd'), ?_, (fo, nI n', g_kinds, va_cpy g_weights f_weights 0 0 4, nI m', va_cpy g_generators f_generators 0 0 4, va_cpy g_racks f_racks 0 0 9, g_howManySeen, va_cpy g_seenFirst f_seenFirst 0 0 5, va_cpy g_seenSecond f_seenSecond 0 0 5, va_cpy g_seenIs f_seenIs 0 0 5, va_cpy g_seenPlaces f_seenPlaces 0 0 5, g_howManyEvents, va_cpy g_eventWhat f_eventWhat 0 0 8, va_cpy g_eventNumber f_eventNumber 0 0 8, ky, af, fo, tu, nI n', 0, 0), ?_, hV'.2.1.2.2.1, RR_mk hFn' hV' hI (CU_0 hu) (CU_0 hw) ht hr hs⟩
    · unfold f_X10_undo f_X10_moveCount
      rw [hk1, if_neg (show ¬ (1 : Int32) = 0 by decide), es, ob_some, e1, ob_some, ob_some]
    · unfold f_X9_undo
      rw [if_neg (show ¬ (1 : Int32) = 0 by decide), eb, ob_some, eg, ob_some]
