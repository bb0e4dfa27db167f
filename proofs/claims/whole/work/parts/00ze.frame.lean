-- ===== the steps: drop, count, feed, cause, event, see =====
theorem neg_ne {a : Nat} (h : a < 2 ^ 31) {x : Int32} (hx : x < 0) : x ≠ nI a := by
  rintro rfl
  exact nI_pos h hx
theorem r_take_L (z0 : Nat → Int32) {c : Nat} (K : Int32 → (Nat → Int32) → Option (Int32 × (Nat → Int32))) : ∀ d i fu z, i + d = 9 → d < fu → z 2 = nI c → (∀ x, z x = if 37 ≤ x ∧ x < 37 + i ∧ z0 x = nI c then -5 else z0 x) → ∃ z', (∀ x, z' x = if 37 ≤ x ∧ x < 46 ∧ z0 x = nI c then -5 else z0 x) ∧ f_X10_drop_L24 K fu (nI i) z = K (nI 9) z'
  | d, i, 0, _, _, h, _, _ => by omega
  | 0, i, fu + 1, z, hi, _, _, h => by
    rw [f_X10_drop_L24, li_9, if_pos (nI_le (by omega) (by omega)), show i = 9 by omega]
    exact ⟨z, fun x => by rw [h x, show 37 + i = 46 by omega], rfl⟩
  | d + 1, i, fu + 1, z, hi, hfu, h2, h => by
    have hi1 : z (37 + i) = z0 (37 + i) := by rw [h, if_neg (by omega)]
    rw [f_X10_drop_L24, li_9, if_neg (nI_ge (by omega) (by omega)), li_37, nI_add, qe_rd _ (by omega) (by decide), ob_some, rd2 h2, ob_some, qe_wt _ _ (by omega) (by decide), ob_some, nI_1, hi1]
    by_cases e : z0 (37 + i) = nI c
    · rw [if_pos e]
      refine r_take_L z0 K d (i + 1) fu _ (by omega) (by omega) (by rw [upd_ne _ (by omega)]; exact h2) (fun x => ?_)
      by_cases g : x = 37 + i
      · rw [g, upd_at, if_pos ⟨by omega, by omega, e⟩]
      · rw [upd_ne _ g, h x]
        exact if_iff ⟨fun q => ⟨q.1, by omega, q.2.2⟩, fun q => ⟨q.1, by omega, q.2.2⟩⟩
    · rw [if_neg e, ob_some, qe_wt _ _ (by omega) (by decide), ob_some]
      refine r_take_L z0 K d (i + 1) fu _ (by omega) (by omega) (by rw [upd_ne _ (by omega)]; exact h2) (fun x => ?_)
      by_cases g : x = 37 + i
      · rw [g, upd_at, if_neg (fun q => e q.2.2)]
      · rw [upd_ne _ g, h x]
        exact if_iff ⟨fun q => ⟨q.1, by omega, q.2.2⟩, fun q => ⟨q.1, by omega, q.2.2⟩⟩
theorem e_take_L (f0 : Nat → Int32) {v : Int32} (K : Int32 → (Nat → Int32) → Option (Nat → Int32)) : ∀ d i fu f, i + d = 9 → d < fu → (∀ x, f x = if x < i ∧ f0 x = v then -1 else f0 x) → ∃ f', (∀ x, f' x = if x < 9 ∧ f0 x = v then -1 else f0 x) ∧ f_X3_takeFromRacks_L2 v K fu (nI i) f = K (nI 9) f'
  | d, i, 0, _, _, h, _ => by omega
  | 0, i, fu + 1, f, hi, _, h => by
    rw [f_X3_takeFromRacks_L2, li_9, if_pos (nI_le (by omega) (by omega)), show i = 9 by omega]
    exact ⟨f, fun x => by rw [h x, show i = 9 by omega], rfl⟩
  | d + 1, i, fu + 1, f, hi, hfu, h => by
    have hi1 : f i = f0 i := by rw [h, if_neg (by omega)]
    rw [f_X3_takeFromRacks_L2, li_9, if_neg (nI_ge (by omega) (by omega)), qe_rd _ (by omega) (by decide), ob_some, qe_wt _ _ (by omega) (by decide), ob_some, nI_1, hi1]
    by_cases e : f0 i = v
    · rw [if_pos e]
      refine e_take_L f0 K d (i + 1) fu _ (by omega) (by omega) (fun x => ?_)
      by_cases g : x = i
      · rw [g, upd_at, if_pos ⟨by omega, e⟩]
      · rw [upd_ne _ g, h x]
        exact if_iff ⟨fun q => ⟨by omega, q.2⟩, fun q => ⟨by omega, q.2⟩⟩
    · rw [if_neg e]
      refine e_take_L f0 K d (i + 1) fu _ (by omega) (by omega) (fun x => ?_)
      rw [h x]
      exact if_iff ⟨fun q => ⟨by omega, q.2⟩, fun q => ⟨by
        have : x ≠ i := fun g => e (g ▸ q.2)
        omega, q.2⟩⟩
theorem sel_full_sub {gk : Nat → Nat} {a b : Nat} (h : a ≤ b) : ∀ g ∈ sel (2 ^ a - 1) gk a 0, g ∈ sel (2 ^ b - 1) gk b 0 := by
  intro g hg
  obtain ⟨j, -, h2, h3, rfl⟩ := sel_of _ _ _ hg
  exact sel_mem b 0 j (Nat.zero_le _) (by omega) (by rw [Nat.testBit_two_pow_sub_one]; exact decide_eq_true (by omega))
theorem op_drop : OP_drop RR := by
  intro x_hasImage f_places f_kinds f_weights f_howManyGenerators f_generators f_racks f_howManySeen f_seenFirst f_seenSecond f_seenIs f_seenPlaces f_howManyEvents f_eventWhat f_eventNumber g_places g_kinds g_weights g_howManyGenerators g_generators g_racks g_howManySeen g_seenFirst g_seenSecond g_seenIs g_seenPlaces g_howManyEvents g_eventWhat g_eventNumber v_keys v_asFound v_found v_turns v_places p_keys p_asFound p_found p_turns p_places i_sort i_howOften i_sorts i_moves n_u u_leasts u_howMany u_known n_w w_leasts w_howMany w_known t_signs t_length t_whole t_begins t_ends r_sorts r_numbers r_length sr ln it z_thrown z_s z_kept z_isKept z_moveMany z_moves z_hands z_troubles z_troubleSorts z_troubleNumbers z_asked z_paint z_leasts z_isSeen z_classMany z_types z_typeCounts z_typeMany z_text z_signs z_at z_lacks z_clauses z_begun z_letters z_firsts z_seconds z_aside z_sorts z_sizes z_items hR
  obtain ⟨n, k, m, gk, w, B, hF, hV, hI, hu, hw, ht, hr, hs⟩ := hR
  have hF' := hF
  obtain ⟨hb, ⟨rfl, rfl, rfl⟩, ⟨hz0, hz1, hz2⟩, hw4, hG, hK, hS, hE⟩ := hF
  have hm4 := hb.2.2.2.2
  by_cases hm0 : m = 0
  · subst hm0
    refine ⟨(-3, z_s), ?_, (-3, nI 0, f_racks, v_keys, v_asFound, v_found, v_turns, v_places, u_known, w_known), ?_, rfl, RR_mk hF' hV hI hu hw ht hr hs⟩
    · unfold f_X10_drop
      rw [rd2 hz2, ob_some, if_pos (show nI 0 = (0 : Int32) from rfl)]
    · unfold f_X9_drop
      rw [if_neg (by decide)]
  · obtain ⟨c, rfl⟩ : ∃ c, m = c + 1 := ⟨m - 1, by omega⟩
    have hdec : nI (c + 1) - 1 = nI c := nI_dec (by omega)
    obtain ⟨C, hC⟩ := gen_sub (sel_full_sub (gk := gk) (show c ≤ c + 1 by omega)) hV.1
    obtain ⟨k', a', f', t', hV', eg⟩ := e_growMoves (n := n) (m := c) (gk := gk) (fg := f_generators) (keys := v_keys) (asF := v_asFound) (found := v_found) (turns := v_turns) (pl := v_places) (uk := u_known) (wk' := w_known) hb.2.1 (by omega) (fun g hg => ⟨(hG g (by omega)).1, (hG g (by omega)).2.1⟩) hC
    obtain ⟨fr', hfr, ef⟩ := e_take_L f_racks (v := nI c) (fun _ a => some a) 9 0 q_fu f_racks (by omega) (fu_lt (by omega)) (fun x => by rw [if_neg (by omega)])
    obtain ⟨z', hz', ez⟩ := r_take_L (upd z_s 2 (nI c)) (c := c) (fun _ z_s_5 => (q_rd z_s_5 82 2).bind fun t6 => some (t6, z_s_5)) 9 0 q_fu (upd z_s 2 (nI c)) (by omega) (fu_lt (by omega)) (upd_at _ _ _) (fun x => by rw [if_neg (by omega)])
    have hz'2 : z' 2 = nI c := by rw [hz' 2, if_neg (by omega), upd_at]
    have hx : ∀ x, ¬ (x = 2 ∨ 37 ≤ x ∧ x < 46) → z' x = z_s x := fun x h => by
      rw [hz' x, if_neg (by omega), upd_ne _ (by omega)]
    refine ⟨(nI c, z'), ?_, (nI c, nI c, fr', k', a', f', t', nI n, 0, 0), ?_, rfl, ?_⟩
    · unfold f_X10_drop
      rw [rd2 hz2, ob_some, if_neg (nI_ne0 (by omega) (by omega)), ob_some, hdec, show q_wt z_s 82 2 (nI c) = _ from qe_wt (i := 2) _ _ (by decide) (by decide), ob_some]
      refine Eq.trans ez ?_
      show (q_rd z' 82 2).bind _ = _
      rw [rd2 hz'2, ob_some]
    · unfold f_X9_drop f_X3_takeFromRacks
      rw [if_pos (by rw [show (0 : Int32) = nI 0 from rfl]; exact nI_lt (by omega) (by omega)), hdec, show f_X3_takeFromRacks_L2 (nI c) (fun _ f_racks_1 => some f_racks_1) q_fu 0 f_racks = _ from ef, ob_some, eg, ob_some]
    · refine RR_mk (n := n) (k := k) (m := c) (gk := gk) (w := w) (B := C) ⟨⟨hb.1, hb.2.1, hb.2.2.1, hb.2.2.2.1, by omega⟩, ⟨rfl, rfl, rfl⟩, ⟨(hx 0 (by omega)).trans hz0, (hx 1 (by omega)).trans hz1, hz'2⟩, fun j hj => ?_, FG_cong (z := z_s) (by omega) hb.2.1 (fun g hg => hG g (by omega)) (fun x h1 h2 => hx x (by omega)), fun r hr => ?_, FS_cong hS (hx 3 (by omega)) (fun x h1 h2 => hx x (by omega)), FE_cong hE (hx 4 (by omega)) (fun x h1 h2 => hx x (by omega))⟩ hV' hI (CU_0 hu) (CU_0 hw) ht hr hs
      · exact ⟨(hw4 j hj).1, (hw4 j hj).2.1, (hx _ (by omega)).trans (hw4 j hj).2.2⟩
      · have e1 := hfr r
        have e2 := hz' (37 + r)
        rw [upd_ne _ (by omega)] at e2
        show (fr' r = -1 ∧ z' (37 + r) = -5) ∨ ∃ g, g < c ∧ fr' r = nI g ∧ z' (37 + r) = nI g
        rcases hK r hr with ⟨g1, g2⟩ | ⟨g, g0, g1, g2⟩
        · rw [g1, if_neg (fun q => neg_ne (a := c) (by omega) (by decide) q.2)] at e1
          rw [g2, if_neg (fun q => neg_ne (a := c) (by omega) (by decide) q.2.2)] at e2
          exact Or.inl ⟨e1, e2⟩
        · by_cases e : g = c
          · rw [g1, e, if_pos ⟨hr, rfl⟩] at e1
            rw [g2, e, if_pos ⟨by omega, by omega, rfl⟩] at e2
            exact Or.inl ⟨e1, e2⟩
          · rw [g1, if_neg (fun q => e (nI_inj (by omega) (by omega) q.2))] at e1
            rw [g2, if_neg (fun q => e (nI_inj (by omega) (by omega) q.2.2))] at e2
            exact Or.inr ⟨g, by omega, e1, e2⟩
theorem op_count : OP_count RR := by
  intro x_hasImage f_places f_kinds f_weights f_howManyGenerators f_generators f_racks f_howManySeen f_seenFirst f_seenSecond f_seenIs f_seenPlaces f_howManyEvents f_eventWhat f_eventNumber g_places g_kinds g_weights g_howManyGenerators g_generators g_racks g_howManySeen g_seenFirst g_seenSecond g_seenIs g_seenPlaces g_howManyEvents g_eventWhat g_eventNumber v_keys v_asFound v_found v_turns v_places p_keys p_asFound p_found p_turns p_places i_sort i_howOften i_sorts i_moves n_u u_leasts u_howMany u_known n_w w_leasts w_howMany w_known t_signs t_length t_whole t_begins t_ends r_sorts r_numbers r_length sr ln it z_thrown z_s z_kept z_isKept z_moveMany z_moves z_hands z_troubles z_troubleSorts z_troubleNumbers z_asked z_paint z_leasts z_isSeen z_classMany z_types z_typeCounts z_typeMany z_text z_signs z_at z_lacks z_clauses z_begun z_letters z_firsts z_seconds z_aside z_sorts z_sizes z_items hR p1
  obtain ⟨n, k, m, gk, w, B, hF, hV, hI, hu, hw, ht, hr, hs⟩ := hR
  have hF' := hF
  obtain ⟨hb, ⟨rfl, rfl, rfl⟩, ⟨hz0, hz1, hz2⟩, hw4, hG, hK, ⟨sc, hsc, rfl, es2, hS⟩, ⟨ec, hec, rfl, ee2, hE⟩⟩ := hF
  obtain ⟨tc, htc, rfl, rfl, hT⟩ := id ht
  have e3 : q_rd z_s 82 3 = some (nI sc) := by rw [li_3, qe_rd _ (by decide) (by decide), es2]
  have e4 : q_rd z_s 82 4 = some (nI ec) := by rw [li_4, qe_rd _ (by decide) (by decide), ee2]
  unfold f_X10_count f_X9_count
  rw [e3, e4, ob_some, ob_some]
  by_cases h0 : p1 = 0
  · simp only [if_pos h0]
    exact ⟨_, rfl, _, rfl, rfl, RR_mk hF' hV hI hu hw ht hr hs⟩
  · simp only [if_neg h0]
    by_cases h1 : p1 = 1
    · simp only [if_pos h1]
      exact ⟨_, rfl, _, rfl, rfl, RR_mk hF' hV hI hu hw ht hr hs⟩
    · simp only [if_neg h1]
      by_cases h2 : p1 = 2
      · simp only [if_pos h2]
        exact ⟨_, rfl, _, rfl, rfl, RR_mk hF' hV hI hu hw ht hr hs⟩
      · simp only [if_neg h2]
        exact ⟨_, rfl, _, rfl, rfl, RR_mk hF' hV hI hu hw ht hr hs⟩
theorem op_feed : OP_feed RR := by
  intro x_hasImage f_places f_kinds f_weights f_howManyGenerators f_generators f_racks f_howManySeen f_seenFirst f_seenSecond f_seenIs f_seenPlaces f_howManyEvents f_eventWhat f_eventNumber g_places g_kinds g_weights g_howManyGenerators g_generators g_racks g_howManySeen g_seenFirst g_seenSecond g_seenIs g_seenPlaces g_howManyEvents g_eventWhat g_eventNumber v_keys v_asFound v_found v_turns v_places p_keys p_asFound p_found p_turns p_places i_sort i_howOften i_sorts i_moves n_u u_leasts u_howMany u_known n_w w_leasts w_howMany w_known t_signs t_length t_whole t_begins t_ends r_sorts r_numbers r_length sr ln it z_thrown z_s z_kept z_isKept z_moveMany z_moves z_hands z_troubles z_troubleSorts z_troubleNumbers z_asked z_paint z_leasts z_isSeen z_classMany z_types z_typeCounts z_typeMany z_text z_signs z_at z_lacks z_clauses z_begun z_letters z_firsts z_seconds z_aside z_sorts z_sizes z_items hR p1
  obtain ⟨n, k, m, gk, w, B, hF, hV, hI, hu, hw, ht, hr, hs⟩ := hR
  obtain ⟨tc, htc, rfl, rfl, hT⟩ := id ht
  have ein : f_X10_in (p1.toInt64) 0 127 = some (if (0 : Int32) ≤ p1 ∧ p1 ≤ 127 then 1 else 0) := r_inN (by decide) (by decide)
  by_cases hin : (0 : Int32) ≤ p1 ∧ p1 ≤ 127
  · obtain ⟨v, -, hv, rfl⟩ := in_nat (l := 0) (h := 127) (by decide) (by decide) hin
    by_cases hf : tc = 100
    · subst hf
      refine ⟨(-4, z_text, nI 100), ?_, (-4, t_signs, nI 100), ?_, rfl, RR_mk hF hV hI hu hw ht hr hs⟩
      · unfold f_X10_feed
        rw [ein, ob_some, if_pos hin, if_neg (show ¬ (1 : Int32) = 0 by decide), if_pos (show nI 100 = (100 : Int32) from rfl)]
      · unfold f_X9_feed f_X7_add
        rw [if_neg (nlt_le.mpr hin.1), if_pos hin.2, if_neg (by decide), ob_some, if_pos rfl]
    · refine ⟨(nI (tc + 1), upd z_text tc (nI v), nI (tc + 1)), ?_, (nI (tc + 1), upd t_signs tc (nI v), nI (tc + 1)), ?_, rfl, RR_mk hF hV hI hu hw ⟨tc + 1, by omega, rfl, rfl, fun j hj => ?_⟩ hr hs⟩
      · unfold f_X10_feed
        rw [ein, ob_some, if_pos hin, if_neg (show ¬ (1 : Int32) = 0 by decide), li_100, if_neg (fun q => hf (nI_inj (by omega) (by omega) q)), qe_wt _ _ (by omega) (by decide), ob_some, nI_1]
      · unfold f_X9_feed f_X7_add
        rw [if_neg (nlt_le.mpr hin.1), if_pos hin.2, li_100, if_pos (nI_lt (by omega) (by decide)), qe_wt _ _ (by omega) (by decide), ob_some, ob_some, nI_1, if_neg (show ¬ (1 : Int32) = 0 by decide)]
      · show upd t_signs tc (nI v) j = upd z_text tc (nI v) j ∧ ∃ x, x < 128 ∧ upd z_text tc (nI v) j = nI x
        by_cases e : j = tc
        · subst e
          rw [upd_at, upd_at]
          exact ⟨rfl, v, by omega, rfl⟩
        · rw [upd_ne _ e, upd_ne _ e]
          exact hT j (by omega)
  · refine ⟨(-2, z_text, nI tc), ?_, (-2, t_signs, nI tc), ?_, rfl, RR_mk hF hV hI hu hw ht hr hs⟩
    · unfold f_X10_feed
      rw [ein, ob_some, if_neg hin, if_pos rfl]
    · unfold f_X9_feed
      by_cases h1 : p1 < 0
      · rw [if_pos h1]
      · rw [if_neg h1, if_neg (fun q => hin ⟨nlt_le.mp h1, q⟩)]
/-- 0 or 1 -/
theorem e_flag (x : Int32) : f_X9_isFlag x = some (if (0 : Int32) ≤ x ∧ x ≤ 1 then 1 else 0) := by
  unfold f_X9_isFlag
  have t0 : (0 : Int32).toInt = 0 := by decide
  have t1 : (1 : Int32).toInt = 1 := by decide
  by_cases h0 : x = 0
  · rw [if_pos h0, if_pos (by rw [h0]; decide)]
  · rw [if_neg h0]
    by_cases h1 : x = 1
    · rw [if_pos h1, if_pos (by rw [h1]; decide)]
    · rw [if_neg h1, if_neg]
      rw [fa_eq] at h0 h1
      rw [fa_le, fa_le]
      omega
theorem flag_01 {x : Int32} (h : (0 : Int32) ≤ x ∧ x ≤ 1) : x = nI 0 ∨ x = nI 1 := by
  obtain ⟨v, -, hv, rfl⟩ := in_nat (l := 0) (h := 1) (by decide) (by decide) h
  rcases (show v = 0 ∨ v = 1 by omega) with rfl | rfl
  · exact Or.inl rfl
  · exact Or.inr rfl
theorem op_cause : OP_cause RR := by
  intro x_hasImage f_places f_kinds f_weights f_howManyGenerators f_generators f_racks f_howManySeen f_seenFirst f_seenSecond f_seenIs f_seenPlaces f_howManyEvents f_eventWhat f_eventNumber g_places g_kinds g_weights g_howManyGenerators g_generators g_racks g_howManySeen g_seenFirst g_seenSecond g_seenIs g_seenPlaces g_howManyEvents g_eventWhat g_eventNumber v_keys v_asFound v_found v_turns v_places p_keys p_asFound p_found p_turns p_places i_sort i_howOften i_sorts i_moves n_u u_leasts u_howMany u_known n_w w_leasts w_howMany w_known t_signs t_length t_whole t_begins t_ends r_sorts r_numbers r_length sr ln it z_thrown z_s z_kept z_isKept z_moveMany z_moves z_hands z_troubles z_troubleSorts z_troubleNumbers z_asked z_paint z_leasts z_isSeen z_classMany z_types z_typeCounts z_typeMany z_text z_signs z_at z_lacks z_clauses z_begun z_letters z_firsts z_seconds z_aside z_sorts z_sizes z_items hR p1 p2
  obtain ⟨n, k, m, gk, w, B, hF, hV, hI, hu, hw, ht, hr, hs⟩ := hR
  obtain ⟨c, hc, rfl, rfl, hT⟩ := id hr
  have ein : f_X10_in (p2.toInt64) 0 1 = some (if (0 : Int32) ≤ p2 ∧ p2 ≤ 1 then 1 else 0) := r_inN (by decide) (by decide)
  unfold f_X10_cause f_X9_cause
  rw [ein, e_flag, ob_some, ob_some]
  by_cases h0 : p1 < 0
  · simp only [if_pos h0]
    exact ⟨_, rfl, _, rfl, rfl, RR_mk hF hV hI hu hw ht hr hs⟩
  · simp only [if_neg h0]
    obtain ⟨v, hv, rfl⟩ := nI_of h0
    by_cases h1 : (0 : Int32) ≤ p2 ∧ p2 ≤ 1
    · simp only [if_pos h1, show ¬ (1 : Int32) = 0 by decide, if_false]
      by_cases h2 : v < c
      · simp only [if_pos (nI_lt h2 (show c < 2 ^ 31 by omega))]
        rw [qe_rd _ (by omega) (by decide), qe_rd _ (by omega) (by decide), qe_rd _ (by omega) (by decide), qe_rd _ (by omega) (by decide), ob_some, ob_some, ob_some, ob_some, (hT v h2).1, (hT v h2).2]
        by_cases h3 : p2 = 0
        · simp only [if_pos h3]
          exact ⟨_, rfl, _, rfl, rfl, RR_mk hF hV hI hu hw ht hr hs⟩
        · simp only [if_neg h3]
          exact ⟨_, rfl, _, rfl, rfl, RR_mk hF hV hI hu hw ht hr hs⟩
      · simp only [if_neg (nI_nlt (show c ≤ v by omega) hv)]
        exact ⟨_, rfl, _, rfl, rfl, RR_mk hF hV hI hu hw ht hr hs⟩
    · simp only [if_neg h1, if_true]
      exact ⟨_, rfl, _, rfl, rfl, RR_mk hF hV hI hu hw ht hr hs⟩
