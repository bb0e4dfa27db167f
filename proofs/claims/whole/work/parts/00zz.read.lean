-- ===== read: the clauses done =====
theorem bool_pick {β : Type} (a : Int32) (A : β) : (if a < 0 then some ((0 : Int32), A) else some (1, A)) = some (if a < 0 then 0 else 1, A) := by
  split <;> rfl
theorem rd_step {x_hasImage : Int32} {f_places : Int32} {f_kinds : Int32} {f_weights : Nat → Int32} {f_howManyGenerators : Int32} {f_generators : Nat → Int32} {f_racks : Nat → Int32} {f_howManySeen : Int32} {f_seenFirst : Nat → Int32} {f_seenSecond : Nat → Int32} {f_seenIs : Nat → Int32} {f_seenPlaces : Nat → Int32} {f_howManyEvents : Int32} {f_eventWhat : Nat → Int32} {f_eventNumber : Nat → Int32} {g_places : Int32} {g_kinds : Int32} {g_weights : Nat → Int32} {g_howManyGenerators : Int32} {g_generators : Nat → Int32} {g_racks : Nat → Int32} {g_howManySeen : Int32} {g_seenFirst : Nat → Int32} {g_seenSecond : Nat → Int32} {g_seenIs : Nat → Int32} {g_seenPlaces : Nat → Int32} {g_howManyEvents : Int32} {g_eventWhat : Nat → Int32} {g_eventNumber : Nat → Int32} {v_keys : Nat → Int32} {v_asFound : Nat → Int32} {v_found : Int32} {v_turns : Int32} {v_places : Int32} {p_keys : Nat → Int32} {p_asFound : Nat → Int32} {p_found : Int32} {p_turns : Int32} {p_places : Int32} {i_sort : Nat → Int32} {i_howOften : Nat → Int32} {i_sorts : Int32} {i_moves : Int32} {n_u : Nat} {u_leasts : Nat → Int32} {u_howMany : Int32} {u_known : Int32} {n_w : Nat} {w_leasts : Nat → Int32} {w_howMany : Int32} {w_known : Int32} {t_signs : Nat → Int32} {t_length : Int32} {t_whole : Int32} {t_begins : Nat → Int32} {t_ends : Nat → Int32} {r_sorts : Nat → Int32} {r_numbers : Nat → Int32} {r_length : Int32} {sr : Nat → Int32} {ln : Nat → Int32} {it : Nat → Nat → Int64} {z_thrown : Int32} {z_s : Nat → Int32} {z_kept : Nat → Int32} {z_isKept : Int32} {z_moveMany : Int32} {z_moves : Nat → Int32} {z_hands : Nat → Int32} {z_troubles : Int32} {z_troubleSorts : Nat → Int32} {z_troubleNumbers : Nat → Int32} {z_asked : Nat → Int32} {z_paint : Nat → Int32} {z_leasts : Nat → Int32} {z_isSeen : Nat → Int32} {z_classMany : Int32} {z_types : Nat → Int32} {z_typeCounts : Nat → Int32} {z_typeMany : Int32} {z_text : Nat → Int32} {z_signs : Int32} {z_at : Int32} {z_lacks : Int32} {z_clauses : Int32} {z_begun : Int32} {z_letters : Nat → Int32} {z_firsts : Nat → Int32} {z_seconds : Nat → Int32} {z_aside : Nat → Int32} {z_sorts : Nat → Int32} {z_sizes : Nat → Int32} {z_items : Nat → Int64} {n_m0 n_m1 n_m2 n_s0 n_s1 n_s2 : Nat} {le fi se : Nat → Int32} {j : Nat} {x N : Int32} (hj : j < 12) (hx : le j = x) (hm : mo x ≠ 0) (hN : x ≠ 119 → N = fi j) (hW : x = 119 → q_dv N 10 = some (fi j) ∧ q_rm N 10 = some (se j)) (hR : RR x_hasImage f_places f_kinds f_weights f_howManyGenerators f_generators f_racks f_howManySeen f_seenFirst f_seenSecond f_seenIs f_seenPlaces f_howManyEvents f_eventWhat f_eventNumber g_places g_kinds g_weights g_howManyGenerators g_generators g_racks g_howManySeen g_seenFirst g_seenSecond g_seenIs g_seenPlaces g_howManyEvents g_eventWhat g_eventNumber v_keys v_asFound v_found v_turns v_places p_keys p_asFound p_found p_turns p_places i_sort i_howOften i_sorts i_moves n_u u_leasts u_howMany u_known n_w w_leasts w_howMany w_known t_signs t_length t_whole t_begins t_ends r_sorts r_numbers r_length sr ln it z_thrown z_s z_kept z_isKept z_moveMany z_moves z_hands z_troubles z_troubleSorts z_troubleNumbers z_asked z_paint z_leasts z_isSeen z_classMany z_types z_typeCounts z_typeMany z_text z_signs z_at z_lacks z_clauses z_begun z_letters z_firsts z_seconds z_aside z_sorts z_sizes z_items) : ∃ (rm : Int32 × (Nat → Int32) × (Int32) × (Nat → Int32) × (Nat → Int32) × (Int32) × (Nat → Int32) × (Nat → Int32)) (rx : Int32 × (Int32) × (Int32) × (Nat → Int32) × (Int32) × (Nat → Int32) × (Nat → Int32) × (Nat) × (Nat) × (Nat) × (Nat) × (Nat) × (Nat) × (Nat → Int32) × (Nat → Int32) × (Int32) × (Int32) × (Int32) × (Nat → Int32) × (Nat → Int32) × (Int32) × (Int32) × (Int32) × (Int32) × (Int32) × (Nat → Int32) × (Nat → Int32) × (Int32)), f_X10_isDone (nI j) z_s z_moveMany z_moves z_hands z_troubles z_troubleSorts z_troubleNumbers le fi se = some rm ∧ f_X9_doClause x N f_places f_kinds f_weights f_howManyGenerators f_generators f_racks n_m0 n_m1 n_m2 n_s0 n_s1 n_s2 v_keys v_asFound v_found v_turns v_places p_keys p_asFound p_found p_turns p_places u_known w_known r_sorts r_numbers r_length = some rx ∧ rm.1 = (if rx.1 < 0 then 0 else 1) ∧ RR x_hasImage rx.2.1 rx.2.2.1 rx.2.2.2.1 rx.2.2.2.2.1 rx.2.2.2.2.2.1 rx.2.2.2.2.2.2.1 f_howManySeen f_seenFirst f_seenSecond f_seenIs f_seenPlaces f_howManyEvents f_eventWhat f_eventNumber g_places g_kinds g_weights g_howManyGenerators g_generators g_racks g_howManySeen g_seenFirst g_seenSecond g_seenIs g_seenPlaces g_howManyEvents g_eventWhat g_eventNumber rx.2.2.2.2.2.2.2.2.2.2.2.2.2.1 rx.2.2.2.2.2.2.2.2.2.2.2.2.2.2.1 rx.2.2.2.2.2.2.2.2.2.2.2.2.2.2.2.1 rx.2.2.2.2.2.2.2.2.2.2.2.2.2.2.2.2.1 rx.2.2.2.2.2.2.2.2.2.2.2.2.2.2.2.2.2.1 rx.2.2.2.2.2.2.2.2.2.2.2.2.2.2.2.2.2.2.1 rx.2.2.2.2.2.2.2.2.2.2.2.2.2.2.2.2.2.2.2.1 rx.2.2.2.2.2.2.2.2.2.2.2.2.2.2.2.2.2.2.2.2.1 rx.2.2.2.2.2.2.2.2.2.2.2.2.2.2.2.2.2.2.2.2.2.1 rx.2.2.2.2.2.2.2.2.2.2.2.2.2.2.2.2.2.2.2.2.2.2.1 i_sort i_howOften i_sorts i_moves n_u u_leasts u_howMany rx.2.2.2.2.2.2.2.2.2.2.2.2.2.2.2.2.2.2.2.2.2.2.2.1 n_w w_leasts w_howMany rx.2.2.2.2.2.2.2.2.2.2.2.2.2.2.2.2.2.2.2.2.2.2.2.2.1 t_signs t_length t_whole t_begins t_ends rx.2.2.2.2.2.2.2.2.2.2.2.2.2.2.2.2.2.2.2.2.2.2.2.2.2.1 rx.2.2.2.2.2.2.2.2.2.2.2.2.2.2.2.2.2.2.2.2.2.2.2.2.2.2.1 rx.2.2.2.2.2.2.2.2.2.2.2.2.2.2.2.2.2.2.2.2.2.2.2.2.2.2.2 sr ln it z_thrown rm.2.1 z_kept z_isKept rm.2.2.1 rm.2.2.2.1 rm.2.2.2.2.1 rm.2.2.2.2.2.1 rm.2.2.2.2.2.2.1 rm.2.2.2.2.2.2.2 z_asked z_paint z_leasts z_isSeen z_classMany z_types z_typeCounts z_typeMany z_text z_signs z_at z_lacks z_clauses z_begun z_letters z_firsts z_seconds z_aside z_sorts z_sizes z_items := by
  unfold f_X10_isDone f_X9_doClause
  rw [qe_rd _ hj (by decide), ob_some, qe_rd _ hj (by decide), ob_some, hx]
  by_cases h1 : x = 107
  · subst h1
    rw [hN (by decide)]
    obtain ⟨rm0, e1, rx0, e2, e3, hR2⟩ := op_kinds hR (fi j)
    refine ⟨((if rx0.1 < 0 then 0 else 1), rm0.2, z_moveMany, z_moves, z_hands, z_troubles, z_troubleSorts, z_troubleNumbers), (rx0.1, f_places, rx0.2.1, f_weights, f_howManyGenerators, f_generators, f_racks, n_m0, n_m1, n_m2, n_s0, n_s1, n_s2, v_keys, v_asFound, v_found, v_turns, v_places, p_keys, p_asFound, p_found, p_turns, p_places, rx0.2.2.1, rx0.2.2.2, r_sorts, r_numbers, r_length), ?_, ?_, rfl, hR2⟩
    · rw [if_pos rfl, e1, ob_some, bool_pick, e3]
    · rw [if_pos rfl, e2, ob_some]
  by_cases h2 : x = 110
  · subst h2
    rw [hN (by decide)]
    obtain ⟨rm0, e1, rx0, e2, e3, hR2⟩ := op_places hR (fi j)
    refine ⟨((if rx0.1 < 0 then 0 else 1), rm0.2, z_moveMany, z_moves, z_hands, z_troubles, z_troubleSorts, z_troubleNumbers), (rx0.1, rx0.2.1, f_kinds, f_weights, rx0.2.2.1, f_generators, rx0.2.2.2.1, n_m0, n_m1, n_m2, n_s0, n_s1, n_s2, rx0.2.2.2.2.1, rx0.2.2.2.2.2.1, rx0.2.2.2.2.2.2.1, rx0.2.2.2.2.2.2.2.1, rx0.2.2.2.2.2.2.2.2.1, p_keys, p_asFound, p_found, p_turns, p_places, rx0.2.2.2.2.2.2.2.2.2.1, rx0.2.2.2.2.2.2.2.2.2.2, r_sorts, r_numbers, r_length), ?_, ?_, rfl, hR2⟩
    · rw [if_neg (show ¬ (110 : Int32) = 107 by decide), if_pos rfl, e1, ob_some, bool_pick, e3]
    · rw [if_neg (show ¬ (110 : Int32) = 107 by decide), if_neg (show ¬ (110 : Int32) = 109 by decide), if_pos rfl, e2, ob_some]
  by_cases h3 : x = 119
  · subst h3
    obtain ⟨w1, w2⟩ := hW rfl
    obtain ⟨rm0, e1, rx0, e2, e3, hR2⟩ := op_weight hR (fi j) (se j)
    refine ⟨((if rx0.1 < 0 then 0 else 1), rm0.2, z_moveMany, z_moves, z_hands, z_troubles, z_troubleSorts, z_troubleNumbers), (rx0.1, f_places, f_kinds, rx0.2, f_howManyGenerators, f_generators, f_racks, n_m0, n_m1, n_m2, n_s0, n_s1, n_s2, v_keys, v_asFound, v_found, v_turns, v_places, p_keys, p_asFound, p_found, p_turns, p_places, u_known, w_known, r_sorts, r_numbers, r_length), ?_, ?_, rfl, hR2⟩
    · rw [if_neg (show ¬ (119 : Int32) = 107 by decide), if_neg (show ¬ (119 : Int32) = 110 by decide), if_pos rfl, qe_rd _ hj (by decide), ob_some, e1, ob_some, bool_pick, e3]
    · rw [if_neg (show ¬ (119 : Int32) = 107 by decide), if_neg (show ¬ (119 : Int32) = 109 by decide), if_neg (show ¬ (119 : Int32) = 110 by decide), if_neg (show ¬ (119 : Int32) = 116 by decide), if_pos rfl, w1, ob_some, w2, ob_some, e2, ob_some]
  by_cases h4 : x = 116
  · subst h4
    rw [hN (by decide)]
    obtain ⟨rm0, e1, rx0, e2, e3, hR2⟩ := op_generator hR (fi j) 0 n_m0 n_m1 n_m2 n_s0 n_s1 n_s2
    refine ⟨((if rx0.1 < 0 then 0 else 1), rm0.2.1, rm0.2.2.1, rm0.2.2.2.1, rm0.2.2.2.2.1, rm0.2.2.2.2.2.1, rm0.2.2.2.2.2.2.1, rm0.2.2.2.2.2.2.2), (rx0.1, f_places, f_kinds, f_weights, rx0.2.1, rx0.2.2.1, f_racks, rx0.2.2.2.1, rx0.2.2.2.2.1, rx0.2.2.2.2.2.1, rx0.2.2.2.2.2.2.1, rx0.2.2.2.2.2.2.2.1, rx0.2.2.2.2.2.2.2.2.1, rx0.2.2.2.2.2.2.2.2.2.1, rx0.2.2.2.2.2.2.2.2.2.2.1, rx0.2.2.2.2.2.2.2.2.2.2.2.1, rx0.2.2.2.2.2.2.2.2.2.2.2.2.1, rx0.2.2.2.2.2.2.2.2.2.2.2.2.2.1, rx0.2.2.2.2.2.2.2.2.2.2.2.2.2.2.1, rx0.2.2.2.2.2.2.2.2.2.2.2.2.2.2.2.1, rx0.2.2.2.2.2.2.2.2.2.2.2.2.2.2.2.2.1, rx0.2.2.2.2.2.2.2.2.2.2.2.2.2.2.2.2.2.1, rx0.2.2.2.2.2.2.2.2.2.2.2.2.2.2.2.2.2.2.1, rx0.2.2.2.2.2.2.2.2.2.2.2.2.2.2.2.2.2.2.2.1, rx0.2.2.2.2.2.2.2.2.2.2.2.2.2.2.2.2.2.2.2.2.1, rx0.2.2.2.2.2.2.2.2.2.2.2.2.2.2.2.2.2.2.2.2.2.1, rx0.2.2.2.2.2.2.2.2.2.2.2.2.2.2.2.2.2.2.2.2.2.2.1, rx0.2.2.2.2.2.2.2.2.2.2.2.2.2.2.2.2.2.2.2.2.2.2.2), ?_, ?_, rfl, hR2⟩
    · rw [if_neg (show ¬ (116 : Int32) = 107 by decide), if_neg (show ¬ (116 : Int32) = 110 by decide), if_neg (show ¬ (116 : Int32) = 119 by decide), ob_some, if_pos rfl, e1, ob_some, bool_pick, e3]
    · rw [if_neg (show ¬ (116 : Int32) = 107 by decide), if_neg (show ¬ (116 : Int32) = 109 by decide), if_neg (show ¬ (116 : Int32) = 110 by decide), if_pos rfl, e2, ob_some]
  by_cases h5 : x = 109
  · subst h5
    rw [hN (by decide)]
    obtain ⟨rm0, e1, rx0, e2, e3, hR2⟩ := op_generator hR (fi j) 1 n_m0 n_m1 n_m2 n_s0 n_s1 n_s2
    refine ⟨((if rx0.1 < 0 then 0 else 1), rm0.2.1, rm0.2.2.1, rm0.2.2.2.1, rm0.2.2.2.2.1, rm0.2.2.2.2.2.1, rm0.2.2.2.2.2.2.1, rm0.2.2.2.2.2.2.2), (rx0.1, f_places, f_kinds, f_weights, rx0.2.1, rx0.2.2.1, f_racks, rx0.2.2.2.1, rx0.2.2.2.2.1, rx0.2.2.2.2.2.1, rx0.2.2.2.2.2.2.1, rx0.2.2.2.2.2.2.2.1, rx0.2.2.2.2.2.2.2.2.1, rx0.2.2.2.2.2.2.2.2.2.1, rx0.2.2.2.2.2.2.2.2.2.2.1, rx0.2.2.2.2.2.2.2.2.2.2.2.1, rx0.2.2.2.2.2.2.2.2.2.2.2.2.1, rx0.2.2.2.2.2.2.2.2.2.2.2.2.2.1, rx0.2.2.2.2.2.2.2.2.2.2.2.2.2.2.1, rx0.2.2.2.2.2.2.2.2.2.2.2.2.2.2.2.1, rx0.2.2.2.2.2.2.2.2.2.2.2.2.2.2.2.2.1, rx0.2.2.2.2.2.2.2.2.2.2.2.2.2.2.2.2.2.1, rx0.2.2.2.2.2.2.2.2.2.2.2.2.2.2.2.2.2.2.1, rx0.2.2.2.2.2.2.2.2.2.2.2.2.2.2.2.2.2.2.2.1, rx0.2.2.2.2.2.2.2.2.2.2.2.2.2.2.2.2.2.2.2.2.1, rx0.2.2.2.2.2.2.2.2.2.2.2.2.2.2.2.2.2.2.2.2.2.1, rx0.2.2.2.2.2.2.2.2.2.2.2.2.2.2.2.2.2.2.2.2.2.2.1, rx0.2.2.2.2.2.2.2.2.2.2.2.2.2.2.2.2.2.2.2.2.2.2.2), ?_, ?_, rfl, hR2⟩
    · rw [if_neg (show ¬ (109 : Int32) = 107 by decide), if_neg (show ¬ (109 : Int32) = 110 by decide), if_neg (show ¬ (109 : Int32) = 119 by decide), ob_some, if_neg (show ¬ (109 : Int32) = 116 by decide), e1, ob_some, bool_pick, e3]
    · rw [if_neg (show ¬ (109 : Int32) = 107 by decide), if_pos rfl, e2, ob_some]
  exfalso
  apply hm
  unfold mo
  rw [if_neg h1, if_neg h5, if_neg h2, if_neg h4, if_neg h3]
theorem e_letter {ts zt tb : Nat → Int32} {c w j p : Nat} (hc : c ≤ 100) (ht : ∀ j, j < c → ts j = zt j) (hw : w ≤ 12) (hj : j < w) (hp : p < 2 ^ 18) (hb : tb j = nI p) : f_X7_letterOf (nI j) ts (nI c) (nI w) tb = some (chx zt c p) := by
  unfold f_X7_letterOf
  rw [if_neg (nI_pos (by omega)), if_neg (nI_ge hj (by omega)), qe_rd _ (by omega) (by decide), ob_some, hb, e_sign hc ht (by omega), ob_some]
theorem e_num_L {ts zt te : Nat → Int32} {c j e : Nat} (hc : c ≤ 100) (ht : ∀ j, j < c → ts j = zt j) (hj : j < 12) (he : te j = nI e) (he2 : e < 2 ^ 20) (K : Int32 → Int32 → Option Int32) : ∀ d q fu a, q + d = e → d < fu → f_X7_numberOf_L23 (nI j) ts (nI c) te K fu a (nI q) = K (vl (chx zt c) a d q) (nI e)
  | d, q, 0, _, _, h => by omega
  | 0, q, fu + 1, a, hq, _ => by
    obtain rfl : q = e := by omega
    rw [f_X7_numberOf_L23, qe_rd _ hj (by decide), ob_some, he, if_pos (nI_le (by omega) (by omega))]
    rfl
  | d + 1, q, fu + 1, a, hq, hfu => by
    rw [f_X7_numberOf_L23, qe_rd _ hj (by decide), ob_some, he, if_neg (nI_ge (by omega) (by omega)), e_sign hc ht (by omega), ob_some, nI_1, e_num_L hc ht hj he he2 K d (q + 1) fu _ (by omega) (by omega), vl, Int32.mul_comm a 10]
theorem e_numOf {ts zt tb te : Nat → Int32} {c w j p : Nat} (hc : c ≤ 100) (ht : ∀ j, j < c → ts j = zt j) (hw : w ≤ 12) (hj : j < w) (hp : p < 2 ^ 18) (hb : tb j = nI p) (he : te j = nI (cend (chx zt c) p)) (hk : cok (chx zt c) p) : f_X7_numberOf (nI j) ts (nI c) (nI w) tb te = some (vl (chx zt c) 0 (ndg (chx zt c) (mo (chx zt c p)) (p + 1)) (p + 1)) := by
  have hce : cend (chx zt c) p = p + 1 + ndg (chx zt c) (mo (chx zt c p)) (p + 1) := if_neg hk.1
  have hm := mo_le (chx zt c p)
  have hl := ndg_le (chx zt c) (mo (chx zt c p)) (p + 1)
  unfold f_X7_numberOf
  rw [if_neg (nI_pos (by omega)), if_neg (nI_ge hj (by omega)), qe_rd _ (by omega) (by decide), ob_some, hb, nI_1]
  exact e_num_L hc ht (by omega) he (by omega) _ (ndg (chx zt c) (mo (chx zt c p)) (p + 1)) (p + 1) q_fu 0 (by omega) (fu_lt (by omega))
theorem vl_two {ch : Nat → Int32} {p : Nat} (h3 : ch p = 119) (hk : cok ch p) : q_dv (vl ch 0 (ndg ch (mo (ch p)) (p + 1)) (p + 1)) 10 = some (vl ch 0 1 (p + 1)) ∧ q_rm (vl ch 0 (ndg ch (mo (ch p)) (p + 1)) (p + 1)) 10 = some (vl ch 0 1 (p + 2)) := by
  have hmo : mo (ch p) = 2 := by rw [h3]; decide
  have hk2 := hk.2
  have hf : fwd (ch p) = 2 := by rw [h3]; decide
  rw [hf, hmo] at hk2
  rw [hmo]
  have n2 : ndg ch 2 (p + 1) = if isd (ch (p + 1)) = true then 1 + (if isd (ch (p + 2)) = true then 1 else 0) else 0 := rfl
  have d1 : isd (ch (p + 1)) = true := by
    by_cases h : isd (ch (p + 1)) = true
    · exact h
    · rw [n2, if_neg h] at hk2; omega
  have d2 : isd (ch (p + 2)) = true := by
    by_cases h : isd (ch (p + 2)) = true
    · exact h
    · rw [n2, if_pos d1, if_neg h] at hk2; omega
  have n3 : ndg ch 2 (p + 1) = 2 := by rw [n2, if_pos d1, if_pos d2]
  obtain ⟨a, ha, ea⟩ := isd_nat d1
  obtain ⟨b, hb, eb⟩ := isd_nat d2
  have v1 : vl ch 0 1 (p + 1) = nI a := by
    show (10 * 0 + ch (p + 1)) - 48 = _
    rw [ea, show (10 * 0 : Int32) = nI 0 from rfl, nI_add, show (48 : Int32) = nI 48 from rfl, nI_sub (by omega), show 0 + (48 + a) - 48 = a by omega]
  have v2 : vl ch 0 1 (p + 2) = nI b := by
    show (10 * 0 + ch (p + 2)) - 48 = _
    rw [eb, show (10 * 0 : Int32) = nI 0 from rfl, nI_add, show (48 : Int32) = nI 48 from rfl, nI_sub (by omega), show 0 + (48 + b) - 48 = b by omega]
  have v3 : vl ch 0 2 (p + 1) = nI (10 * a + b) := by
    show (10 * vl ch 0 1 (p + 1) + ch (p + 2)) - 48 = _
    rw [v1, eb, li_10, nI_mul, nI_add, show (48 : Int32) = nI 48 from rfl, nI_sub (by omega), show 10 * a + (48 + b) - 48 = 10 * a + b by omega]
  rw [n3, v1, v2, v3, li_10, qe_dv (by omega) (by omega) (by decide), qe_rm (by omega) (by omega) (by decide)]
  exact ⟨congrArg (fun n => some (nI n)) (show (10 * a + b) / 10 = a by omega), congrArg (fun n => some (nI n)) (show (10 * a + b) % 10 = b by omega)⟩
theorem rd_L {ts zt tb te le fi se : Nat → Int32} {c w : Nat} (hc : c ≤ 100) (ht : ∀ j, j < c → ts j = zt j) (hw : w ≤ 12) (hC : ∀ j, j < w → CRL (chx zt c) tb te le fi se j) (KM : Int32 → Int32 → (Nat → Int32) → Int32 → (Nat → Int32) → (Nat → Int32) → Int32 → (Nat → Int32) → (Nat → Int32) → Option (Int32 × (Nat → Int32) × Int32 × (Nat → Int32) × (Nat → Int32) × Int32 × (Nat → Int32) × (Nat → Int32) × Int32 × Int32 × Int32 × Int32 × Int32 × (Nat → Int32) × (Nat → Int32) × (Nat → Int32))) (KC : Int32 → Int32 → Int32 → Int32 → (Nat → Int32) → Int32 → (Nat → Int32) → (Nat → Int32) → Nat → Nat → Nat → Nat → Nat → Nat → (Nat → Int32) → (Nat → Int32) → Int32 → Int32 → Int32 → (Nat → Int32) → (Nat → Int32) → Int32 → Int32 → Int32 → Int32 → Int32 → (Nat → Int32) → (Nat → Int32) → Int32 → Option (Int32 × Int32 × Int32 × (Nat → Int32) × Int32 × (Nat → Int32) × (Nat → Int32) × Nat × Nat × Nat × Nat × Nat × Nat × (Nat → Int32) × (Nat → Int32) × Int32 × Int32 × Int32 × (Nat → Int32) × (Nat → Int32) × Int32 × Int32 × Int32 × Int32 × Int32 × Int32 × Int32 × (Nat → Int32) × (Nat → Int32) × (Nat → Int32) × (Nat → Int32) × Int32)) : ∀ (d j fu : Nat) (acc : Int32) {x_hasImage : Int32} {f_places : Int32} {f_kinds : Int32} {f_weights : Nat → Int32} {f_howManyGenerators : Int32} {f_generators : Nat → Int32} {f_racks : Nat → Int32} {f_howManySeen : Int32} {f_seenFirst : Nat → Int32} {f_seenSecond : Nat → Int32} {f_seenIs : Nat → Int32} {f_seenPlaces : Nat → Int32} {f_howManyEvents : Int32} {f_eventWhat : Nat → Int32} {f_eventNumber : Nat → Int32} {g_places : Int32} {g_kinds : Int32} {g_weights : Nat → Int32} {g_howManyGenerators : Int32} {g_generators : Nat → Int32} {g_racks : Nat → Int32} {g_howManySeen : Int32} {g_seenFirst : Nat → Int32} {g_seenSecond : Nat → Int32} {g_seenIs : Nat → Int32} {g_seenPlaces : Nat → Int32} {g_howManyEvents : Int32} {g_eventWhat : Nat → Int32} {g_eventNumber : Nat → Int32} {v_keys : Nat → Int32} {v_asFound : Nat → Int32} {v_found : Int32} {v_turns : Int32} {v_places : Int32} {p_keys : Nat → Int32} {p_asFound : Nat → Int32} {p_found : Int32} {p_turns : Int32} {p_places : Int32} {i_sort : Nat → Int32} {i_howOften : Nat → Int32} {i_sorts : Int32} {i_moves : Int32} {n_u : Nat} {u_leasts : Nat → Int32} {u_howMany : Int32} {u_known : Int32} {n_w : Nat} {w_leasts : Nat → Int32} {w_howMany : Int32} {w_known : Int32} {t_signs : Nat → Int32} {t_length : Int32} {t_whole : Int32} {t_begins : Nat → Int32} {t_ends : Nat → Int32} {r_sorts : Nat → Int32} {r_numbers : Nat → Int32} {r_length : Int32} {sr : Nat → Int32} {ln : Nat → Int32} {it : Nat → Nat → Int64} {z_thrown : Int32} {z_s : Nat → Int32} {z_kept : Nat → Int32} {z_isKept : Int32} {z_moveMany : Int32} {z_moves : Nat → Int32} {z_hands : Nat → Int32} {z_troubles : Int32} {z_troubleSorts : Nat → Int32} {z_troubleNumbers : Nat → Int32} {z_asked : Nat → Int32} {z_paint : Nat → Int32} {z_leasts : Nat → Int32} {z_isSeen : Nat → Int32} {z_classMany : Int32} {z_types : Nat → Int32} {z_typeCounts : Nat → Int32} {z_typeMany : Int32} {z_text : Nat → Int32} {z_signs : Int32} {z_at : Int32} {z_lacks : Int32} {z_clauses : Int32} {z_begun : Int32} {z_letters : Nat → Int32} {z_firsts : Nat → Int32} {z_seconds : Nat → Int32} {z_aside : Nat → Int32} {z_sorts : Nat → Int32} {z_sizes : Nat → Int32} {z_items : Nat → Int64} {n_m0 n_m1 n_m2 n_s0 n_s1 n_s2 : Nat} (_ : j + d = w) (_ : d < fu) (_ : RR x_hasImage f_places f_kinds f_weights f_howManyGenerators f_generators f_racks f_howManySeen f_seenFirst f_seenSecond f_seenIs f_seenPlaces f_howManyEvents f_eventWhat f_eventNumber g_places g_kinds g_weights g_howManyGenerators g_generators g_racks g_howManySeen g_seenFirst g_seenSecond g_seenIs g_seenPlaces g_howManyEvents g_eventWhat g_eventNumber v_keys v_asFound v_found v_turns v_places p_keys p_asFound p_found p_turns p_places i_sort i_howOften i_sorts i_moves n_u u_leasts u_howMany u_known n_w w_leasts w_howMany w_known t_signs t_length t_whole t_begins t_ends r_sorts r_numbers r_length sr ln it z_thrown z_s z_kept z_isKept z_moveMany z_moves z_hands z_troubles z_troubleSorts z_troubleNumbers z_asked z_paint z_leasts z_isSeen z_classMany z_types z_typeCounts z_typeMany z_text z_signs z_at z_lacks z_clauses z_begun z_letters z_firsts z_seconds z_aside z_sorts z_sizes z_items), ∃ (a : Int32) (rm : (Nat → Int32) × (Int32) × (Nat → Int32) × (Nat → Int32) × (Int32) × (Nat → Int32) × (Nat → Int32)) (rx : (Int32) × (Int32) × (Nat → Int32) × (Int32) × (Nat → Int32) × (Nat → Int32) × (Nat) × (Nat) × (Nat) × (Nat) × (Nat) × (Nat) × (Nat → Int32) × (Nat → Int32) × (Int32) × (Int32) × (Int32) × (Nat → Int32) × (Nat → Int32) × (Int32) × (Int32) × (Int32) × (Int32) × (Int32) × (Nat → Int32) × (Nat → Int32) × (Int32)), f_X10_read_L126 (nI w) le fi se KM fu acc (nI j) z_s z_moveMany z_moves z_hands z_troubles z_troubleSorts z_troubleNumbers = KM a (nI w) rm.1 rm.2.1 rm.2.2.1 rm.2.2.2.1 rm.2.2.2.2.1 rm.2.2.2.2.2.1 rm.2.2.2.2.2.2 ∧ f_X9_read_L41 ts (nI c) (nI w) tb te KC fu acc (nI j) f_places f_kinds f_weights f_howManyGenerators f_generators f_racks n_m0 n_m1 n_m2 n_s0 n_s1 n_s2 v_keys v_asFound v_found v_turns v_places p_keys p_asFound p_found p_turns p_places u_known w_known r_sorts r_numbers r_length = KC a (nI w) rx.1 rx.2.1 rx.2.2.1 rx.2.2.2.1 rx.2.2.2.2.1 rx.2.2.2.2.2.1 rx.2.2.2.2.2.2.1 rx.2.2.2.2.2.2.2.1 rx.2.2.2.2.2.2.2.2.1 rx.2.2.2.2.2.2.2.2.2.1 rx.2.2.2.2.2.2.2.2.2.2.1 rx.2.2.2.2.2.2.2.2.2.2.2.1 rx.2.2.2.2.2.2.2.2.2.2.2.2.1 rx.2.2.2.2.2.2.2.2.2.2.2.2.2.1 rx.2.2.2.2.2.2.2.2.2.2.2.2.2.2.1 rx.2.2.2.2.2.2.2.2.2.2.2.2.2.2.2.1 rx.2.2.2.2.2.2.2.2.2.2.2.2.2.2.2.2.1 rx.2.2.2.2.2.2.2.2.2.2.2.2.2.2.2.2.2.1 rx.2.2.2.2.2.2.2.2.2.2.2.2.2.2.2.2.2.2.1 rx.2.2.2.2.2.2.2.2.2.2.2.2.2.2.2.2.2.2.2.1 rx.2.2.2.2.2.2.2.2.2.2.2.2.2.2.2.2.2.2.2.2.1 rx.2.2.2.2.2.2.2.2.2.2.2.2.2.2.2.2.2.2.2.2.2.1 rx.2.2.2.2.2.2.2.2.2.2.2.2.2.2.2.2.2.2.2.2.2.2.1 rx.2.2.2.2.2.2.2.2.2.2.2.2.2.2.2.2.2.2.2.2.2.2.2.1 rx.2.2.2.2.2.2.2.2.2.2.2.2.2.2.2.2.2.2.2.2.2.2.2.2.1 rx.2.2.2.2.2.2.2.2.2.2.2.2.2.2.2.2.2.2.2.2.2.2.2.2.2.1 rx.2.2.2.2.2.2.2.2.2.2.2.2.2.2.2.2.2.2.2.2.2.2.2.2.2.2 ∧ RR x_hasImage rx.1 rx.2.1 rx.2.2.1 rx.2.2.2.1 rx.2.2.2.2.1 rx.2.2.2.2.2.1 f_howManySeen f_seenFirst f_seenSecond f_seenIs f_seenPlaces f_howManyEvents f_eventWhat f_eventNumber g_places g_kinds g_weights g_howManyGenerators g_generators g_racks g_howManySeen g_seenFirst g_seenSecond g_seenIs g_seenPlaces g_howManyEvents g_eventWhat g_eventNumber rx.2.2.2.2.2.2.2.2.2.2.2.2.1 rx.2.2.2.2.2.2.2.2.2.2.2.2.2.1 rx.2.2.2.2.2.2.2.2.2.2.2.2.2.2.1 rx.2.2.2.2.2.2.2.2.2.2.2.2.2.2.2.1 rx.2.2.2.2.2.2.2.2.2.2.2.2.2.2.2.2.1 rx.2.2.2.2.2.2.2.2.2.2.2.2.2.2.2.2.2.1 rx.2.2.2.2.2.2.2.2.2.2.2.2.2.2.2.2.2.2.1 rx.2.2.2.2.2.2.2.2.2.2.2.2.2.2.2.2.2.2.2.1 rx.2.2.2.2.2.2.2.2.2.2.2.2.2.2.2.2.2.2.2.2.1 rx.2.2.2.2.2.2.2.2.2.2.2.2.2.2.2.2.2.2.2.2.2.1 i_sort i_howOften i_sorts i_moves n_u u_leasts u_howMany rx.2.2.2.2.2.2.2.2.2.2.2.2.2.2.2.2.2.2.2.2.2.2.1 n_w w_leasts w_howMany rx.2.2.2.2.2.2.2.2.2.2.2.2.2.2.2.2.2.2.2.2.2.2.2.1 t_signs t_length t_whole t_begins t_ends rx.2.2.2.2.2.2.2.2.2.2.2.2.2.2.2.2.2.2.2.2.2.2.2.2.1 rx.2.2.2.2.2.2.2.2.2.2.2.2.2.2.2.2.2.2.2.2.2.2.2.2.2.1 rx.2.2.2.2.2.2.2.2.2.2.2.2.2.2.2.2.2.2.2.2.2.2.2.2.2.2 sr ln it z_thrown rm.1 z_kept z_isKept rm.2.1 rm.2.2.1 rm.2.2.2.1 rm.2.2.2.2.1 rm.2.2.2.2.2.1 rm.2.2.2.2.2.2 z_asked z_paint z_leasts z_isSeen z_classMany z_types z_typeCounts z_typeMany z_text z_signs z_at z_lacks z_clauses z_begun z_letters z_firsts z_seconds z_aside z_sorts z_sizes z_items := by
  intro d
  induction d with
  | zero =>
    intro j fu acc x_hasImage f_places f_kinds f_weights f_howManyGenerators f_generators f_racks f_howManySeen f_seenFirst f_seenSecond f_seenIs f_seenPlaces f_howManyEvents f_eventWhat f_eventNumber g_places g_kinds g_weights g_howManyGenerators g_generators g_racks g_howManySeen g_seenFirst g_seenSecond g_seenIs g_seenPlaces g_howManyEvents g_eventWhat g_eventNumber v_keys v_asFound v_found v_turns v_places p_keys p_asFound p_found p_turns p_places i_sort i_howOften i_sorts i_moves n_u u_leasts u_howMany u_known n_w w_leasts w_howMany w_known t_signs t_length t_whole t_begins t_ends r_sorts r_numbers r_length sr ln it z_thrown z_s z_kept z_isKept z_moveMany z_moves z_hands z_troubles z_troubleSorts z_troubleNumbers z_asked z_paint z_leasts z_isSeen z_classMany z_types z_typeCounts z_typeMany z_text z_signs z_at z_lacks z_clauses z_begun z_letters z_firsts z_seconds z_aside z_sorts z_sizes z_items n_m0 n_m1 n_m2 n_s0 n_s1 n_s2 hj hfu hR
    obtain ⟨fu, rfl⟩ : ∃ f, fu = f + 1 := ⟨fu - 1, by omega⟩
    obtain rfl : j = w := by omega
    refine ⟨acc, (z_s, z_moveMany, z_moves, z_hands, z_troubles, z_troubleSorts, z_troubleNumbers), (f_places, f_kinds, f_weights, f_howManyGenerators, f_generators, f_racks, n_m0, n_m1, n_m2, n_s0, n_s1, n_s2, v_keys, v_asFound, v_found, v_turns, v_places, p_keys, p_asFound, p_found, p_turns, p_places, u_known, w_known, r_sorts, r_numbers, r_length), ?_, ?_, hR⟩
    · rw [f_X10_read_L126, if_pos (nI_le (by omega) (by omega))]
    · rw [f_X9_read_L41, if_pos (nI_le (by omega) (by omega))]
  | succ d ih =>
    intro j fu acc x_hasImage f_places f_kinds f_weights f_howManyGenerators f_generators f_racks f_howManySeen f_seenFirst f_seenSecond f_seenIs f_seenPlaces f_howManyEvents f_eventWhat f_eventNumber g_places g_kinds g_weights g_howManyGenerators g_generators g_racks g_howManySeen g_seenFirst g_seenSecond g_seenIs g_seenPlaces g_howManyEvents g_eventWhat g_eventNumber v_keys v_asFound v_found v_turns v_places p_keys p_asFound p_found p_turns p_places i_sort i_howOften i_sorts i_moves n_u u_leasts u_howMany u_known n_w w_leasts w_howMany w_known t_signs t_length t_whole t_begins t_ends r_sorts r_numbers r_length sr ln it z_thrown z_s z_kept z_isKept z_moveMany z_moves z_hands z_troubles z_troubleSorts z_troubleNumbers z_asked z_paint z_leasts z_isSeen z_classMany z_types z_typeCounts z_typeMany z_text z_signs z_at z_lacks z_clauses z_begun z_letters z_firsts z_seconds z_aside z_sorts z_sizes z_items n_m0 n_m1 n_m2 n_s0 n_s1 n_s2 hj hfu hR
    obtain ⟨fu, rfl⟩ : ∃ f, fu = f + 1 := ⟨fu - 1, by omega⟩
    obtain ⟨p, hp, h1, h2, h3, h4, h5⟩ := hC j (by omega)
    obtain ⟨rm0, rx0, e1, e2, e3, hR2⟩ := rd_step (n_m0 := n_m0) (n_m1 := n_m1) (n_m2 := n_m2) (n_s0 := n_s0) (n_s1 := n_s1) (n_s2 := n_s2) (le := le) (fi := fi) (se := se) (j := j) (x := chx zt c p) (N := vl (chx zt c) 0 (ndg (chx zt c) (mo (chx zt c p)) (p + 1)) (p + 1)) (by omega) h4 h3.1 (fun q => (h5.2 q).symm) (fun q => by
      rw [(h5.1 q).1, (h5.1 q).2]
      exact vl_two q h3) hR
    rw [f_X10_read_L126, if_neg (nI_ge (by omega) (by omega)), e1, ob_some, f_X9_read_L41, if_neg (nI_ge (by omega) (by omega)), e_letter hc ht hw (by omega) hp h1, ob_some, e_numOf hc ht hw (by omega) hp h1 h2 h3, ob_some, e2, ob_some, e3, nI_1]
    by_cases hn : rx0.1 < 0
    · rw [if_pos hn, if_pos rfl, if_pos hn, Int32.add_zero]
      exact ih (j + 1) fu acc (by omega) (by omega) hR2
    · rw [if_neg hn, if_neg (show ¬ (1 : Int32) = 0 by decide), if_neg hn]
      exact ih (j + 1) fu (acc + 1) (by omega) (by omega) hR2
theorem et1 (a b : Int32) (s m : Nat → Int32) : f_X10_tells a b 0 s m = some (nI 1, upd s 0 a, upd m 0 b) := rfl
theorem et2 (a b : Int32) (s m : Nat → Int32) : f_X10_tells a b (nI 1) s m = some (nI 2, upd s 1 a, upd m 1 b) := rfl
theorem et3 (a b : Int32) (s m : Nat → Int32) : f_X10_tells a b (nI 2) s m = some (nI 3, upd s 2 a, upd m 2 b) := rfl
theorem eb1 (a b l : Int32) (s m : Nat → Int32) : f_X8_begin a b s m l = some (upd s 0 a, upd m 0 b, nI 1) := rfl
theorem eb2 (a b : Int32) (s m : Nat → Int32) : f_X8_because a b s m (nI 1) = some (upd s 1 a, upd m 1 b, nI 2) := rfl
theorem eb3 (a b : Int32) (s m : Nat → Int32) : f_X8_because a b s m (nI 2) = some (upd s 2 a, upd m 2 b, nI 3) := rfl
theorem tr_0 {zt s m : Nat → Int32} {c t : Nat} {tr w bg : Int32} (hc : c ≤ 100) (ht : t < 2 ^ 18) : f_X10_troubled 0 tr s m zt (nI c) (nI t) 0 w bg = some (nI 2, upd (upd s 0 1) 1 4, upd (upd m 0 w) 1 (chx zt c t)) := by
  unfold f_X10_troubled
  rw [et1, ob_some, if_pos rfl, if_pos rfl, r_here hc (by omega), ob_some, et2, ob_some]
theorem tr_1 {zt s m : Nat → Int32} {c t : Nat} {tr w bg lk : Int32} (hc : c ≤ 100) (ht : t < 2 ^ 18) : f_X10_troubled 1 tr s m zt (nI c) (nI t) lk w bg = some (nI 3, if lk = 3 then upd (upd (upd s 0 1) 1 2) 2 3 else upd (upd (upd s 0 1) 1 2) 2 4, if lk = 3 then upd (upd (upd m 0 w) 1 bg) 2 (nI t) else upd (upd (upd m 0 w) 1 bg) 2 (chx zt c t)) := by
  unfold f_X10_troubled
  rw [et1, ob_some, if_neg (show ¬ (1 : Int32) = 0 by decide), et2, ob_some, if_neg (show ¬ (1 : Int32) = 0 by decide)]
  by_cases h : lk = 3
  · rw [if_pos h, if_pos h, if_pos h, et3, ob_some]
  · rw [if_neg h, if_neg h, if_neg h, r_here hc (by omega), ob_some, et3, ob_some]
theorem ex_0 {ts zt tb te s m : Nat → Int32} {c t w : Nat} {l : Int32} (hc : c ≤ 100) (hts : ∀ j, j < c → ts j = zt j) (ht : t < 2 ^ 18) (hw : w < 12) (he : te w = nI t) : f_X7_explain (nI t) ts (nI c) (nI (w + 1)) tb te s m l = some (upd (upd s 0 1) 1 4, upd (upd m 0 (nI (w + 1))) 1 (chx zt c t), nI 2) := by
  unfold f_X7_explain
  rw [eb1, ob_some, if_neg (show ¬ nI (w + 1) ≤ (0 : Int32) from nI_ge (a := 0) (b := w + 1) (by omega) (by omega)), nI_dec (by omega), Nat.add_sub_cancel, qe_rd _ hw (by decide), ob_some, he, if_pos rfl, e_sign hc hts (by omega), ob_some, eb2, ob_some]
theorem ex_1 {ts zt tb te s m : Nat → Int32} {c t w : Nat} {l lk bg : Int32} (hc : c ≤ 100) (hts : ∀ j, j < c → ts j = zt j) (ht : t < 2 ^ 18) (hw : w < 12) (hb : bg = tb w) (he : ∀ w', w = w' + 1 → te w' ≠ nI t) (hlk : lk = 3 ∧ tb w ≠ nI t ∨ lk = 4 ∧ tb w = nI t) : f_X7_explain (nI t) ts (nI c) (nI w) tb te s m l = some (if lk = 3 then upd (upd (upd s 0 1) 1 2) 2 3 else upd (upd (upd s 0 1) 1 2) 2 4, if lk = 3 then upd (upd (upd m 0 (nI w)) 1 bg) 2 (nI t) else upd (upd (upd m 0 (nI w)) 1 bg) 2 (chx zt c t), nI 3) := by
  unfold f_X7_explain
  have h12 : nI w < (12 : Int32) := nI_lt (a := w) (b := 12) (by omega) (by decide)
  rw [eb1, ob_some]
  by_cases h0 : w = 0
  · subst h0
    rw [if_pos (show nI 0 ≤ (0 : Int32) by decide), if_pos h12, qe_rd _ hw (by decide), ob_some, eb2, ob_some, ob_some, hb]
    rcases hlk with ⟨rfl, h⟩ | ⟨rfl, h⟩
    · rw [if_neg (fun q => h q.symm), eb3, ob_some, if_pos rfl, if_pos rfl]
    · rw [if_pos h.symm, e_sign hc hts (by omega), ob_some, eb3, ob_some, if_neg (show ¬ (4 : Int32) = 3 by decide), if_neg (show ¬ (4 : Int32) = 3 by decide)]
  · obtain ⟨w', rfl⟩ : ∃ w', w = w' + 1 := ⟨w - 1, by omega⟩
    rw [if_neg (show ¬ nI (w' + 1) ≤ (0 : Int32) from nI_ge (a := 0) (b := w' + 1) (by omega) (by omega)), nI_dec (by omega), Nat.add_sub_cancel, qe_rd te (show w' < 12 by omega) (by decide), ob_some, if_neg (fun q => he w' rfl q.symm), if_pos h12, qe_rd _ hw (by decide), ob_some, eb2, ob_some, ob_some, hb]
    rcases hlk with ⟨rfl, h⟩ | ⟨rfl, h⟩
    · rw [if_neg (fun q => h q.symm), eb3, ob_some, if_pos rfl, if_pos rfl]
    · rw [if_pos h.symm, e_sign hc hts (by omega), ob_some, eb3, ob_some, if_neg (show ¬ (4 : Int32) = 3 by decide), if_neg (show ¬ (4 : Int32) = 3 by decide)]
theorem op_read : OP_read RR := by
  intro x_hasImage f_places f_kinds f_weights f_howManyGenerators f_generators f_racks f_howManySeen f_seenFirst f_seenSecond f_seenIs f_seenPlaces f_howManyEvents f_eventWhat f_eventNumber g_places g_kinds g_weights g_howManyGenerators g_generators g_racks g_howManySeen g_seenFirst g_seenSecond g_seenIs g_seenPlaces g_howManyEvents g_eventWhat g_eventNumber v_keys v_asFound v_found v_turns v_places p_keys p_asFound p_found p_turns p_places i_sort i_howOften i_sorts i_moves n_u u_leasts u_howMany u_known n_w w_leasts w_howMany w_known t_signs t_length t_whole t_begins t_ends r_sorts r_numbers r_length sr ln it z_thrown z_s z_kept z_isKept z_moveMany z_moves z_hands z_troubles z_troubleSorts z_troubleNumbers z_asked z_paint z_leasts z_isSeen z_classMany z_types z_typeCounts z_typeMany z_text z_signs z_at z_lacks z_clauses z_begun z_letters z_firsts z_seconds z_aside z_sorts z_sizes z_items hR n_m0 n_m1 n_m2 n_s0 n_s1 n_s2
  obtain ⟨n, k, m, gk, w, B, hF, hV, hI, hu, hw, ht, hr, hs⟩ := hR
  have hR : RR x_hasImage f_places f_kinds f_weights f_howManyGenerators f_generators f_racks f_howManySeen f_seenFirst f_seenSecond f_seenIs f_seenPlaces f_howManyEvents f_eventWhat f_eventNumber g_places g_kinds g_weights g_howManyGenerators g_generators g_racks g_howManySeen g_seenFirst g_seenSecond g_seenIs g_seenPlaces g_howManyEvents g_eventWhat g_eventNumber v_keys v_asFound v_found v_turns v_places p_keys p_asFound p_found p_turns p_places i_sort i_howOften i_sorts i_moves n_u u_leasts u_howMany u_known n_w w_leasts w_howMany w_known t_signs t_length t_whole t_begins t_ends r_sorts r_numbers r_length sr ln it z_thrown z_s z_kept z_isKept z_moveMany z_moves z_hands z_troubles z_troubleSorts z_troubleNumbers z_asked z_paint z_leasts z_isSeen z_classMany z_types z_typeCounts z_typeMany z_text z_signs z_at z_lacks z_clauses z_begun z_letters z_firsts z_seconds z_aside z_sorts z_sizes z_items := RR_mk hF hV hI hu hw ht hr hs
  obtain ⟨c, hc, htl, hzs, htx⟩ := ht
  subst htl
  subst hzs
  have hts : ∀ j, j < c → t_signs j = z_text j := fun j hj => (htx j hj).1
  obtain ⟨ft, wn, at_, lk, bg', tb', te', le', fi', se', e1, e2, hP⟩ := parse_L hc hts (fun z_at_2 z_lacks_2 z_clauses_2 z_begun_2 z_letters_2 z_firsts_2 z_seconds_2 => if z_lacks_2 = 0 then (if nI c ≤ z_at_2 then (f_X10_read_L126 z_clauses_2 z_letters_2 z_firsts_2 z_seconds_2 (fun l2_13 l3_13 z_s_13 z_moveMany_13 z_moves_13 z_hands_13 z_troubles_13 z_troubleSorts_13 z_troubleNumbers_13 => some (l2_13, z_s_13, z_moveMany_13, z_moves_13, z_hands_13, z_troubles_13, z_troubleSorts_13, z_troubleNumbers_13, 0, z_at_2, z_lacks_2, z_clauses_2, z_begun_2, z_letters_2, z_firsts_2, z_seconds_2)) q_fu 0 0 z_s z_moveMany z_moves z_hands z_troubles z_troubleSorts z_troubleNumbers) else (if z_lacks_2 = 0 then ((f_X10_troubled 0 z_troubles z_troubleSorts z_troubleNumbers z_text (nI c) z_at_2 z_lacks_2 z_clauses_2 z_begun_2).bind fun t16 => some (((-10)) - z_at_2, z_s, z_moveMany, z_moves, z_hands, t16.1, t16.2.1, t16.2.2, 0, z_at_2, z_lacks_2, z_clauses_2, z_begun_2, z_letters_2, z_firsts_2, z_seconds_2)) else ((f_X10_troubled 1 z_troubles z_troubleSorts z_troubleNumbers z_text (nI c) z_at_2 z_lacks_2 z_clauses_2 z_begun_2).bind fun t18 => some (((-10)) - z_at_2, z_s, z_moveMany, z_moves, z_hands, t18.1, t18.2.1, t18.2.2, 0, z_at_2, z_lacks_2, z_clauses_2, z_begun_2, z_letters_2, z_firsts_2, z_seconds_2)))) else (if z_lacks_2 = 0 then ((f_X10_troubled 0 z_troubles z_troubleSorts z_troubleNumbers z_text (nI c) z_at_2 z_lacks_2 z_clauses_2 z_begun_2).bind fun t6 => some (((-10)) - z_at_2, z_s, z_moveMany, z_moves, z_hands, t6.1, t6.2.1, t6.2.2, 0, z_at_2, z_lacks_2, z_clauses_2, z_begun_2, z_letters_2, z_firsts_2, z_seconds_2)) else ((f_X10_troubled 1 z_troubles z_troubleSorts z_troubleNumbers z_text (nI c) z_at_2 z_lacks_2 z_clauses_2 z_begun_2).bind fun t8 => some (((-10)) - z_at_2, z_s, z_moveMany, z_moves, z_hands, t8.1, t8.2.1, t8.2.2, 0, z_at_2, z_lacks_2, z_clauses_2, z_begun_2, z_letters_2, z_firsts_2, z_seconds_2)))) (fun l1_1 l2_1 t_whole_1 t_begins_1 t_ends_1 => some ((-1), t_whole_1, t_begins_1, t_ends_1)) 11 0 q_fu 0 z_begun t_begins t_ends z_letters z_firsts z_seconds (by omega) (fu_lt (by omega)) (by omega) (fun j hj => by omega) (fun l' hl' => by omega)
  have eM := e2
  have eF : f_X7_findFault t_signs (nI c) t_whole t_begins t_ends = some (ft, nI wn, tb', te') := e1
  rcases hP with ⟨rfl, rfl, ⟨a, rfl, ha, ha2⟩, hw12, hCR⟩ | ⟨t, ht2, rfl, rfl, hw12, hcase⟩
  · obtain ⟨acc, rm, rx, q1, q2, hR2⟩ := rd_L hc hts hw12 hCR (fun l2_13 l3_13 z_s_13 z_moveMany_13 z_moves_13 z_hands_13 z_troubles_13 z_troubleSorts_13 z_troubleNumbers_13 => some (l2_13, z_s_13, z_moveMany_13, z_moves_13, z_hands_13, z_troubles_13, z_troubleSorts_13, z_troubleNumbers_13, 0, nI a, 0, nI wn, bg', le', fi', se')) (fun l2_3 l3_3 f_places_3 f_kinds_3 f_weights_3 f_howManyGenerators_3 f_generators_3 f_racks_3 n_m0_3 n_m1_3 n_m2_3 n_s0_3 n_s1_3 n_s2_3 v_keys_3 v_asFound_3 v_found_3 v_turns_3 v_places_3 p_keys_3 p_asFound_3 p_found_3 p_turns_3 p_places_3 u_known_3 w_known_3 r_sorts_3 r_numbers_3 r_length_3 => some (l2_3, f_places_3, f_kinds_3, f_weights_3, f_howManyGenerators_3, f_generators_3, f_racks_3, n_m0_3, n_m1_3, n_m2_3, n_s0_3, n_s1_3, n_s2_3, v_keys_3, v_asFound_3, v_found_3, v_turns_3, v_places_3, p_keys_3, p_asFound_3, p_found_3, p_turns_3, p_places_3, u_known_3, w_known_3, 0, nI wn, tb', te', r_sorts_3, r_numbers_3, r_length_3)) wn 0 q_fu 0 (n_m0 := n_m0) (n_m1 := n_m1) (n_m2 := n_m2) (n_s0 := n_s0) (n_s1 := n_s1) (n_s2 := n_s2) (by omega) (fu_lt (by omega)) hR
    refine ⟨(acc, rm.1, rm.2.1, rm.2.2.1, rm.2.2.2.1, rm.2.2.2.2.1, rm.2.2.2.2.2.1, rm.2.2.2.2.2.2, 0, nI a, 0, nI wn, bg', le', fi', se'), ?_, (acc, rx.1, rx.2.1, rx.2.2.1, rx.2.2.2.1, rx.2.2.2.2.1, rx.2.2.2.2.2.1, rx.2.2.2.2.2.2.1, rx.2.2.2.2.2.2.2.1, rx.2.2.2.2.2.2.2.2.1, rx.2.2.2.2.2.2.2.2.2.1, rx.2.2.2.2.2.2.2.2.2.2.1, rx.2.2.2.2.2.2.2.2.2.2.2.1, rx.2.2.2.2.2.2.2.2.2.2.2.2.1, rx.2.2.2.2.2.2.2.2.2.2.2.2.2.1, rx.2.2.2.2.2.2.2.2.2.2.2.2.2.2.1, rx.2.2.2.2.2.2.2.2.2.2.2.2.2.2.2.1, rx.2.2.2.2.2.2.2.2.2.2.2.2.2.2.2.2.1, rx.2.2.2.2.2.2.2.2.2.2.2.2.2.2.2.2.2.1, rx.2.2.2.2.2.2.2.2.2.2.2.2.2.2.2.2.2.2.1, rx.2.2.2.2.2.2.2.2.2.2.2.2.2.2.2.2.2.2.2.1, rx.2.2.2.2.2.2.2.2.2.2.2.2.2.2.2.2.2.2.2.2.1, rx.2.2.2.2.2.2.2.2.2.2.2.2.2.2.2.2.2.2.2.2.2.1, rx.2.2.2.2.2.2.2.2.2.2.2.2.2.2.2.2.2.2.2.2.2.2.1, rx.2.2.2.2.2.2.2.2.2.2.2.2.2.2.2.2.2.2.2.2.2.2.2.1, 0, nI wn, tb', te', rx.2.2.2.2.2.2.2.2.2.2.2.2.2.2.2.2.2.2.2.2.2.2.2.2.1, rx.2.2.2.2.2.2.2.2.2.2.2.2.2.2.2.2.2.2.2.2.2.2.2.2.2.1, rx.2.2.2.2.2.2.2.2.2.2.2.2.2.2.2.2.2.2.2.2.2.2.2.2.2.2), ?_, rfl, ?_⟩
    · unfold f_X10_read
      refine Eq.trans eM ?_
      refine Eq.trans (if_pos rfl) ?_
      refine Eq.trans (if_pos (nI_le ha (by omega))) ?_
      exact q1
    · unfold f_X9_read
      rw [eF, ob_some, if_pos m1_lt]
      exact q2
    · obtain ⟨n2, k2, m2, gk2, w2, B2, hF2, hV2, hI2, hu2, hw2, ht3, hr2, hs2⟩ := hR2
      exact RR_mk hF2 hV2 hI2 hu2 hw2 ⟨0, by omega, rfl, rfl, fun j hj => by omega⟩ hr2 hs2
  · rcases hcase with ⟨rfl, htc, w', rfl, hte⟩ | ⟨hl0, hw2, hbg, hne, hlk⟩
    · refine ⟨((-10) - nI t, z_s, z_moveMany, z_moves, z_hands, (nI 2), (upd (upd z_troubleSorts 0 1) 1 4), (upd (upd z_troubleNumbers 0 (nI (w' + 1))) 1 (chx z_text c t)), 0, nI t, 0, nI (w' + 1), bg', le', fi', se'), ?_, ((-10) - nI t, f_places, f_kinds, f_weights, f_howManyGenerators, f_generators, f_racks, n_m0, n_m1, n_m2, n_s0, n_s1, n_s2, v_keys, v_asFound, v_found, v_turns, v_places, p_keys, p_asFound, p_found, p_turns, p_places, u_known, w_known, 0, nI (w' + 1), tb', te', (upd (upd r_sorts 0 1) 1 4), (upd (upd r_numbers 0 (nI (w' + 1))) 1 (chx z_text c t)), (nI 2)), ?_, rfl, RR_mk hF hV hI hu hw ⟨0, by omega, rfl, rfl, fun j hj => by omega⟩ ⟨2, by omega, rfl, rfl, fun j hj => ?_⟩ hs⟩
      · unfold f_X10_read
        refine Eq.trans eM ?_
        refine Eq.trans (if_pos rfl) ?_
        refine Eq.trans (if_neg (nI_ge htc (by omega))) ?_
        refine Eq.trans (if_pos rfl) ?_
        rw [tr_0 hc ht2, ob_some]
      · unfold f_X9_read
        rw [eF, ob_some, if_neg (nI_pos (by omega)), ex_0 hc hts ht2 (by omega) hte, ob_some]
      · obtain rfl | rfl : j = 0 ∨ j = 1 := by omega
        · exact ⟨rfl, rfl⟩
        · exact ⟨rfl, rfl⟩
    · refine ⟨((-10) - nI t, z_s, z_moveMany, z_moves, z_hands, (nI 3), (if lk = 3 then upd (upd (upd z_troubleSorts 0 1) 1 2) 2 3 else upd (upd (upd z_troubleSorts 0 1) 1 2) 2 4), (if lk = 3 then upd (upd (upd z_troubleNumbers 0 (nI wn)) 1 bg') 2 (nI t) else upd (upd (upd z_troubleNumbers 0 (nI wn)) 1 bg') 2 (chx z_text c t)), 0, nI t, lk, nI wn, bg', le', fi', se'), ?_, ((-10) - nI t, f_places, f_kinds, f_weights, f_howManyGenerators, f_generators, f_racks, n_m0, n_m1, n_m2, n_s0, n_s1, n_s2, v_keys, v_asFound, v_found, v_turns, v_places, p_keys, p_asFound, p_found, p_turns, p_places, u_known, w_known, 0, nI wn, tb', te', (if lk = 3 then upd (upd (upd r_sorts 0 1) 1 2) 2 3 else upd (upd (upd r_sorts 0 1) 1 2) 2 4), (if lk = 3 then upd (upd (upd r_numbers 0 (nI wn)) 1 bg') 2 (nI t) else upd (upd (upd r_numbers 0 (nI wn)) 1 bg') 2 (chx z_text c t)), (nI 3)), ?_, rfl, RR_mk hF hV hI hu hw ⟨0, by omega, rfl, rfl, fun j hj => by omega⟩ ⟨3, by omega, rfl, rfl, fun j hj => ?_⟩ hs⟩
      · unfold f_X10_read
        refine Eq.trans eM ?_
        refine Eq.trans (if_neg hl0) ?_
        refine Eq.trans (if_neg hl0) ?_
        rw [tr_1 hc ht2, ob_some]
      · unfold f_X9_read
        rw [eF, ob_some, if_neg (nI_pos (by omega)), ex_1 hc hts ht2 hw2 hbg hne hlk, ob_some]
      · rcases hlk with ⟨rfl, -⟩ | ⟨rfl, -⟩
        · obtain rfl | rfl | rfl : j = 0 ∨ j = 1 ∨ j = 2 := by omega
          · exact ⟨rfl, rfl⟩
          · exact ⟨rfl, rfl⟩
          · exact ⟨rfl, rfl⟩
        · obtain rfl | rfl | rfl : j = 0 ∨ j = 1 ∨ j = 2 := by omega
          · exact ⟨rfl, rfl⟩
          · exact ⟨rfl, rfl⟩
          · exact ⟨rfl, rfl⟩
