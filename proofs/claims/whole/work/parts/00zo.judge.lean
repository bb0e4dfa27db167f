-- ===== the steps: judge =====
/-- what a judge finds from place j on -/
def jres (n : Nat) (it : Nat → Int64) (a l : Nat) : List Nat → Nat → Int32
  | [], _ => -5
  | P :: T, j => if a + j < l then (if it (a + j) = (nI (cb 10 (dg P) n)).toInt64 then jres n it a l T (j + 1) else nI j) else nI (100 + j)
theorem lg_small {a j l : Nat} (ha : a < 2 ^ 31) (hj : j < 2 ^ 31) (hl : l ≤ 60) : lg_cmp (((nI a : Int32).toInt64) + ((nI j : Int32).toInt64)) ((nI l : Int32).toInt64) < 0 ↔ a + j < l := by
  have e1 := nI_toInt (n := a) ha
  have e2 := nI_toInt (n := j) hj
  have e3 := nI_toInt (n := l) (by omega)
  rw [lg_cmp_lt, Int64.lt_iff_toInt_lt, fb_addL (by rw [Int32.toInt_toInt64, Int32.toInt_toInt64]; omega) (by rw [Int32.toInt_toInt64, Int32.toInt_toInt64]; omega), Int32.toInt_toInt64, Int32.toInt_toInt64, Int32.toInt_toInt64, e1, e2, e3]
  omega
theorem r_judge_L {z le se mv hd zn : Nat → Int32} {zi it : Nat → Int64} {n k t a l : Nat} {mm : Int32} {L : List Nat} (hn : n ≤ 6) (hk1 : 1 ≤ k) (hk : k ≤ 4) (hz : z 0 = nI n) (hz1 : z 1 = nI k) (ht : t < 6) (ha : a < 2 ^ 31) (hl : l ≤ 60) (hzn : zn t = nI l) (hit : ∀ j, j < 60 → it j = zi (60 * t + j)) (hL : ∀ P ∈ L, Pt n k P) (hA : AKi le n k L) (hLl : L.length ≤ 4096) : ∀ d i fu pa, i + d = L.length → d < fu → ∃ pa', f_X10_judge_L64 (nI t) (nI a) z mm mv hd le se (nI L.length) zn zi (fun _ p => some (-5, mm, mv, hd, p, le, se, nI L.length)) fu (nI i) pa = some (jres n it a l (L.drop i) i, mm, mv, hd, pa', le, se, nI L.length)
  | d, i, 0, _, _, h => by omega
  | 0, i, fu + 1, pa, hi, _ => by
    rw [f_X10_judge_L64, if_pos (nI_le (by omega) (by omega)), List.drop_eq_nil_of_le (by omega)]
    exact ⟨pa, rfl⟩
  | d + 1, i, fu + 1, pa, hi, hfu => by
    have hiL : i < L.length := by omega
    have hP := hL _ (getD_mem hiL)
    rw [f_X10_judge_L64, if_neg (nI_ge (by omega) (by omega)), qe_rd _ ht (by decide), hzn, ob_some, drop_cons hiL]
    by_cases h1 : a + i < l
    · obtain ⟨pa1, e⟩ := r_tells (pa := pa) hn hk1 hk hz hz1 hP
      rw [if_pos ((lg_small ha (by omega) hl).mpr h1), li_60, nI_mul, nI_add, nI_add, qe_rd _ (by omega) (by decide), ob_some, qe_rd _ (by omega) (by decide), ob_some, hA i hiL, e, ob_some, show 60 * t + a + i = 60 * t + (a + i) by omega, ← hit _ (by omega)]
      unfold jres
      rw [if_pos h1]
      by_cases h2 : it (a + i) = (nI (cb 10 (dg (L.getD i 0)) n)).toInt64
      · rw [if_pos ((lg_cmp_eq _ _).mpr h2), if_pos h2, nI_1]
        exact r_judge_L hn hk1 hk hz hz1 ht ha hl hzn hit hL hA hLl d (i + 1) fu pa1 (by omega) (by omega)
      · rw [if_neg (fun q => h2 ((lg_cmp_eq _ _).mp q)), if_neg h2]
        exact ⟨pa1, rfl⟩
    · rw [if_neg (fun q => h1 ((lg_small ha (by omega) hl).mp q))]
      unfold jres
      rw [if_neg h1, li_100, nI_add]
      exact ⟨pa, rfl⟩
theorem e_judge_0_L {ul : Nat → Int32} {it : Nat → Int64} {n k nu a l : Nat} {L : List Nat} (hn : n ≤ 6) (ha : a < 2 ^ 31) (hl : l ≤ 60) (hL : ∀ P ∈ L, Pt n k P) (hA : AK ul L) (hnu : L.length ≤ nu) (hnu2 : nu ≤ 4096) : ∀ d i fu, i + d = L.length → d < fu → f_X9_judge_0_L69 (nI a) (nI n) nu ul (nI L.length) 1 (nI l) it (fun _ => some (-5, nu, ul, nI L.length, 1)) fu (nI i) = some (jres n it a l (L.drop i) i, nu, ul, nI L.length, 1)
  | d, i, 0, _, h => by omega
  | 0, i, fu + 1, hi, _ => by
    rw [f_X9_judge_0_L69, if_pos (nI_le (by omega) (by omega)), List.drop_eq_nil_of_le (by omega)]
    rfl
  | d + 1, i, fu + 1, hi, hfu => by
    have hiL : i < L.length := by omega
    have hP := hL _ (getD_mem hiL)
    have hlt : nI a < nI l - nI i ↔ a + i < l := by
      have e1 := nI_toInt (n := a) ha
      have e2 := nI_toInt (n := i) (by omega)
      have e3 := nI_toInt (n := l) (by omega)
      rw [fa_lt, fb_subI (by omega) (by omega), e1, e2, e3]
      omega
    rw [f_X9_judge_0_L69, if_neg (nI_ge (by omega) (by omega)), drop_cons hiL]
    unfold jres
    by_cases h1 : a + i < l
    · rw [if_pos (hlt.mpr h1), if_pos h1, nI_add, qe_rd _ (by omega) (by decide), ob_some, qe_rd _ (by omega) (by omega), ob_some, hA i hiL, e_pn hn hP, ob_some]
      by_cases h2 : it (a + i) = (nI (cb 10 (dg (L.getD i 0)) n)).toInt64
      · rw [if_pos ((lg_cmp_eq _ _).mpr h2), if_pos h2, nI_1]
        exact e_judge_0_L hn ha hl hL hA hnu hnu2 d (i + 1) fu (by omega) (by omega)
      · rw [if_neg (fun q => h2 ((lg_cmp_eq _ _).mp q)), if_neg h2]
    · rw [if_neg (fun q => h1 (hlt.mp q)), if_neg h1, li_100, nI_add]
theorem e_judge_1_L {ul : Nat → Int32} {it : Nat → Int64} {n k nu a l : Nat} {L : List Nat} (hn : n ≤ 6) (ha : a < 2 ^ 31) (hl : l ≤ 60) (hL : ∀ P ∈ L, Pt n k P) (hA : AK ul L) (hnu : L.length ≤ nu) (hnu2 : nu ≤ 4096) : ∀ d i fu, i + d = L.length → d < fu → f_X9_judge_1_L69 (nI a) (nI n) nu ul (nI L.length) 1 (nI l) it (fun _ => some (-5, nu, ul, nI L.length, 1)) fu (nI i) = some (jres n it a l (L.drop i) i, nu, ul, nI L.length, 1)
  | d, i, 0, _, h => by omega
  | 0, i, fu + 1, hi, _ => by
    rw [f_X9_judge_1_L69, if_pos (nI_le (by omega) (by omega)), List.drop_eq_nil_of_le (by omega)]
    rfl
  | d + 1, i, fu + 1, hi, hfu => by
    have hiL : i < L.length := by omega
    have hP := hL _ (getD_mem hiL)
    have hlt : nI a < nI l - nI i ↔ a + i < l := by
      have e1 := nI_toInt (n := a) ha
      have e2 := nI_toInt (n := i) (by omega)
      have e3 := nI_toInt (n := l) (by omega)
      rw [fa_lt, fb_subI (by omega) (by omega), e1, e2, e3]
      omega
    rw [f_X9_judge_1_L69, if_neg (nI_ge (by omega) (by omega)), drop_cons hiL]
    unfold jres
    by_cases h1 : a + i < l
    · rw [if_pos (hlt.mpr h1), if_pos h1, nI_add, qe_rd _ (by omega) (by decide), ob_some, qe_rd _ (by omega) (by omega), ob_some, hA i hiL, e_pn hn hP, ob_some]
      by_cases h2 : it (a + i) = (nI (cb 10 (dg (L.getD i 0)) n)).toInt64
      · rw [if_pos ((lg_cmp_eq _ _).mpr h2), if_pos h2, nI_1]
        exact e_judge_1_L hn ha hl hL hA hnu hnu2 d (i + 1) fu (by omega) (by omega)
      · rw [if_neg (fun q => h2 ((lg_cmp_eq _ _).mp q)), if_neg h2]
    · rw [if_neg (fun q => h1 (hlt.mp q)), if_neg h1, li_100, nI_add]
theorem op_judge : OP_judge RR := by
  intro x_hasImage f_places f_kinds f_weights f_howManyGenerators f_generators f_racks f_howManySeen f_seenFirst f_seenSecond f_seenIs f_seenPlaces f_howManyEvents f_eventWhat f_eventNumber g_places g_kinds g_weights g_howManyGenerators g_generators g_racks g_howManySeen g_seenFirst g_seenSecond g_seenIs g_seenPlaces g_howManyEvents g_eventWhat g_eventNumber v_keys v_asFound v_found v_turns v_places p_keys p_asFound p_found p_turns p_places i_sort i_howOften i_sorts i_moves n_u u_leasts u_howMany u_known n_w w_leasts w_howMany w_known t_signs t_length t_whole t_begins t_ends r_sorts r_numbers r_length sr ln it z_thrown z_s z_kept z_isKept z_moveMany z_moves z_hands z_troubles z_troubleSorts z_troubleNumbers z_asked z_paint z_leasts z_isSeen z_classMany z_types z_typeCounts z_typeMany z_text z_signs z_at z_lacks z_clauses z_begun z_letters z_firsts z_seconds z_aside z_sorts z_sizes z_items hR p1 p2 p3
  obtain ⟨n, k, m, gk, w, B, hF, hV, hI, hu, hw, ht, hr, hs⟩ := hR
  have hF' := hF
  obtain ⟨hb, ⟨rfl, rfl, rfl⟩, ⟨hz0, hz1, hz2⟩, hw4, hG, hK, hS, hE⟩ := hF
  have hV' := hV
  obtain ⟨hB, ⟨hKy, hAs, rfl, rfl⟩, rfl⟩ := hV
  have hm4 := hb.2.2.2.2
  have h2n := hb.1
  have h6 := hb.2.1
  have hk1 := hb.2.2.1
  have hk4 := hb.2.2.2.1
  have hKS := KS_of hb hG hB
  have hl := hKS.2
  have hL := srt_len B
  have hpos : 0 < B.length := List.length_pos_of_mem hKS.1.2.2.1
  obtain ⟨mv', hd', hM, e1⟩ := r_moves_ (mv := z_moves) (hd := z_hands) (mm := z_moveMany) hb.2.1 hm4 (ZG_of hz0 hz2 hG) (fun i hi => (hG i hi).1) hB
  have h4 := pow_4096 h6 hk4
  by_cases hby : (0 : Int32) ≤ p1 ∧ p1 ≤ 1
  · rcases t_dec p2 with ⟨t, ht6, rfl⟩ | ⟨i1, i2⟩
    · obtain ⟨hA, hLn, hS0, ⟨l, hl, hL0⟩, hIt⟩ := hs t ht6
      have hs0 : q_rd z_sorts 6 (nI t) = some (sr t) := by rw [qe_rd _ ht6 (by decide), hA]
      rcases flag_01 hby with rfl | rfl
      · rcases hS0 with hm | ⟨s, hs4, hm⟩
        · refine ⟨(100, z_moveMany, z_moves, z_hands, z_paint, z_leasts, z_isSeen, z_classMany), ?_, Or.inl ⟨t, ht6, rfl, Or.inl ⟨rfl, (100, n_u, u_leasts, u_howMany, u_known), ?_, rfl, RR_mk hF' hV' hI hu hw ht hr hs⟩⟩⟩
          · unfold f_X10_judge
            rw [r_by, ob_some, if_pos hby, if_neg (show ¬ (1 : Int32) = 0 by decide), t_isT ht6, ob_some, if_neg (show ¬ (1 : Int32) = 0 by decide), hs0, ob_some, if_pos hm, ob_some, if_pos hm]
          · unfold f_X9_judge_0
            rw [show f_X9_isFlag 0 = some 1 from rfl, ob_some, if_neg (show ¬ (1 : Int32) = 0 by decide), t_isC ht6, ob_some, if_neg (show ¬ (1 : Int32) = 0 by decide), hm, e_hold0, ob_some, if_pos rfl, ob_some, if_pos rfl]
        · rw [hm] at hs0
          by_cases hs2 : nI s = 2
          · by_cases h0 : (0 : Int32) ≤ p3
            · obtain ⟨a, ha, rfl⟩ := nI_of (nlt_le.mpr h0)
              have hLl := LQ_len n k (BY 0 B) (k ^ n)
              obtain ⟨mv2, hd2, pa2, le2, se2, -, hA2, e2⟩ := r_allClasses (mv := z_moves) (hd := z_hands) (mm := z_moveMany) (pa := z_paint) (le := z_leasts) (se := z_isSeen) (cm := z_classMany) (b := 0) h6 hk1 hk4 hm4 (ZG_of hz0 hz2 hG) hz1 (fun i hi => (hG i hi).1) hB (by omega) hKS
              obtain ⟨pa3, e3⟩ := r_judge_L (se := se2) (mv := mv2) (hd := hd2) (mm := nI B.length) h6 hk1 hk4 hz0 hz1 ht6 ha hl (hLn.symm.trans hL0) hIt (fun P hP => LQ_Pt h6 hk1 hk4 hP) hA2 (by omega) (LQ n k (BY 0 B) (k ^ n)).length 0 q_fu pa2 (by omega) (fu_lt (by omega))
              obtain ⟨nu', ul', e4, g1, g2, g3⟩ := e_classesBy_0 h2n h6 hk1 hk4 hKS hKy hu
              have e5 := e_judge_0_L (it := it t) (a := a) h6 ha hl (fun P hP => LQ_Pt h6 hk1 hk4 hP) g2 g3 g1 (LQ n k (BY 0 B) (k ^ n)).length 0 q_fu (by omega) (fu_lt (by omega))
              refine ⟨(jres n (it t) a l ((LQ n k (BY 0 B) (k ^ n)).drop 0) 0, nI B.length, mv2, hd2, pa3, le2, se2, nI (LQ n k (BY 0 B) (k ^ n)).length), ?_, Or.inl ⟨t, ht6, rfl, Or.inl ⟨rfl, (jres n (it t) a l ((LQ n k (BY 0 B) (k ^ n)).drop 0) 0, nu', ul', nI (LQ n k (BY 0 B) (k ^ n)).length, 1), ?_, rfl, RR_mk hF' hV' hI ⟨g1, Or.inr ⟨rfl, g2, rfl, g3⟩⟩ hw ht hr hs⟩⟩⟩
              · unfold f_X10_judge
                rw [r_by, ob_some, if_pos hby, if_neg (show ¬ (1 : Int32) = 0 by decide), t_isT ht6, ob_some, if_neg (show ¬ (1 : Int32) = 0 by decide), hs0, ob_some, if_neg (m1_ne hs4), ob_some, if_pos hs2, ob_some, if_neg (m1_ne hs4), if_pos h0, e2, ob_some]
                exact e3
              · unfold f_X9_judge_0
                rw [show f_X9_isFlag 0 = some 1 from rfl, ob_some, if_neg (show ¬ (1 : Int32) = 0 by decide), t_isC ht6, ob_some, if_neg (show ¬ (1 : Int32) = 0 by decide), hm, e_hold1 hs4, ob_some, if_neg (show ¬ (1 : Int32) = 0 by decide), if_pos hs2, ob_some, if_neg (show ¬ (1 : Int32) = 0 by decide), if_pos h0, e4, ob_some, hL0]
                exact e5
            · refine ⟨(100, z_moveMany, z_moves, z_hands, z_paint, z_leasts, z_isSeen, z_classMany), ?_, Or.inl ⟨t, ht6, rfl, Or.inl ⟨rfl, (100, n_u, u_leasts, u_howMany, u_known), ?_, rfl, RR_mk hF' hV' hI hu hw ht hr hs⟩⟩⟩
              · unfold f_X10_judge
                rw [r_by, ob_some, if_pos hby, if_neg (show ¬ (1 : Int32) = 0 by decide), t_isT ht6, ob_some, if_neg (show ¬ (1 : Int32) = 0 by decide), hs0, ob_some, if_neg (m1_ne hs4), ob_some, if_pos hs2, ob_some, if_neg (m1_ne hs4), if_neg h0]
              · unfold f_X9_judge_0
                rw [show f_X9_isFlag 0 = some 1 from rfl, ob_some, if_neg (show ¬ (1 : Int32) = 0 by decide), t_isC ht6, ob_some, if_neg (show ¬ (1 : Int32) = 0 by decide), hm, e_hold1 hs4, ob_some, if_neg (show ¬ (1 : Int32) = 0 by decide), if_pos hs2, ob_some, if_neg (show ¬ (1 : Int32) = 0 by decide), if_neg h0]
          · refine ⟨(-12, z_moveMany, z_moves, z_hands, z_paint, z_leasts, z_isSeen, z_classMany), ?_, Or.inl ⟨t, ht6, rfl, Or.inl ⟨rfl, (-12, n_u, u_leasts, u_howMany, u_known), ?_, rfl, RR_mk hF' hV' hI hu hw ht hr hs⟩⟩⟩
            · unfold f_X10_judge
              rw [r_by, ob_some, if_pos hby, if_neg (show ¬ (1 : Int32) = 0 by decide), t_isT ht6, ob_some, if_neg (show ¬ (1 : Int32) = 0 by decide), hs0, ob_some, if_neg (m1_ne hs4), ob_some, if_neg hs2]
            · unfold f_X9_judge_0
              rw [show f_X9_isFlag 0 = some 1 from rfl, ob_some, if_neg (show ¬ (1 : Int32) = 0 by decide), t_isC ht6, ob_some, if_neg (show ¬ (1 : Int32) = 0 by decide), hm, e_hold1 hs4, ob_some, if_neg (show ¬ (1 : Int32) = 0 by decide), if_neg hs2]
      · rcases hS0 with hm | ⟨s, hs4, hm⟩
        · refine ⟨(100, z_moveMany, z_moves, z_hands, z_paint, z_leasts, z_isSeen, z_classMany), ?_, Or.inl ⟨t, ht6, rfl, Or.inr ⟨rfl, (100, n_w, w_leasts, w_howMany, w_known), ?_, rfl, RR_mk hF' hV' hI hu hw ht hr hs⟩⟩⟩
          · unfold f_X10_judge
            rw [r_by, ob_some, if_pos hby, if_neg (show ¬ (1 : Int32) = 0 by decide), t_isT ht6, ob_some, if_neg (show ¬ (1 : Int32) = 0 by decide), hs0, ob_some, if_pos hm, ob_some, if_pos hm]
          · unfold f_X9_judge_1
            rw [show f_X9_isFlag 1 = some 1 from rfl, ob_some, if_neg (show ¬ (1 : Int32) = 0 by decide), t_isC ht6, ob_some, if_neg (show ¬ (1 : Int32) = 0 by decide), hm, e_hold0, ob_some, if_pos rfl, ob_some, if_pos rfl]
        · rw [hm] at hs0
          by_cases hs2 : nI s = 2
          · by_cases h0 : (0 : Int32) ≤ p3
            · obtain ⟨a, ha, rfl⟩ := nI_of (nlt_le.mpr h0)
              have hLl := LQ_len n k (BY 1 B) (k ^ n)
              obtain ⟨mv2, hd2, pa2, le2, se2, -, hA2, e2⟩ := r_allClasses (mv := z_moves) (hd := z_hands) (mm := z_moveMany) (pa := z_paint) (le := z_leasts) (se := z_isSeen) (cm := z_classMany) (b := 1) h6 hk1 hk4 hm4 (ZG_of hz0 hz2 hG) hz1 (fun i hi => (hG i hi).1) hB (by omega) hKS
              obtain ⟨pa3, e3⟩ := r_judge_L (se := se2) (mv := mv2) (hd := hd2) (mm := nI B.length) h6 hk1 hk4 hz0 hz1 ht6 ha hl (hLn.symm.trans hL0) hIt (fun P hP => LQ_Pt h6 hk1 hk4 hP) hA2 (by omega) (LQ n k (BY 1 B) (k ^ n)).length 0 q_fu pa2 (by omega) (fu_lt (by omega))
              obtain ⟨nu', ul', e4, g1, g2, g3⟩ := e_classesBy_1 h2n h6 hk1 hk4 hKS hKy hw
              have e5 := e_judge_1_L (it := it t) (a := a) h6 ha hl (fun P hP => LQ_Pt h6 hk1 hk4 hP) g2 g3 g1 (LQ n k (BY 1 B) (k ^ n)).length 0 q_fu (by omega) (fu_lt (by omega))
              refine ⟨(jres n (it t) a l ((LQ n k (BY 1 B) (k ^ n)).drop 0) 0, nI B.length, mv2, hd2, pa3, le2, se2, nI (LQ n k (BY 1 B) (k ^ n)).length), ?_, Or.inl ⟨t, ht6, rfl, Or.inr ⟨rfl, (jres n (it t) a l ((LQ n k (BY 1 B) (k ^ n)).drop 0) 0, nu', ul', nI (LQ n k (BY 1 B) (k ^ n)).length, 1), ?_, rfl, RR_mk hF' hV' hI hu ⟨g1, Or.inr ⟨rfl, g2, rfl, g3⟩⟩ ht hr hs⟩⟩⟩
              · unfold f_X10_judge
                rw [r_by, ob_some, if_pos hby, if_neg (show ¬ (1 : Int32) = 0 by decide), t_isT ht6, ob_some, if_neg (show ¬ (1 : Int32) = 0 by decide), hs0, ob_some, if_neg (m1_ne hs4), ob_some, if_pos hs2, ob_some, if_neg (m1_ne hs4), if_pos h0, e2, ob_some]
                exact e3
              · unfold f_X9_judge_1
                rw [show f_X9_isFlag 1 = some 1 from rfl, ob_some, if_neg (show ¬ (1 : Int32) = 0 by decide), t_isC ht6, ob_some, if_neg (show ¬ (1 : Int32) = 0 by decide), hm, e_hold1 hs4, ob_some, if_neg (show ¬ (1 : Int32) = 0 by decide), if_pos hs2, ob_some, if_neg (show ¬ (1 : Int32) = 0 by decide), if_pos h0, e4, ob_some, hL0]
                exact e5
            · refine ⟨(100, z_moveMany, z_moves, z_hands, z_paint, z_leasts, z_isSeen, z_classMany), ?_, Or.inl ⟨t, ht6, rfl, Or.inr ⟨rfl, (100, n_w, w_leasts, w_howMany, w_known), ?_, rfl, RR_mk hF' hV' hI hu hw ht hr hs⟩⟩⟩
              · unfold f_X10_judge
                rw [r_by, ob_some, if_pos hby, if_neg (show ¬ (1 : Int32) = 0 by decide), t_isT ht6, ob_some, if_neg (show ¬ (1 : Int32) = 0 by decide), hs0, ob_some, if_neg (m1_ne hs4), ob_some, if_pos hs2, ob_some, if_neg (m1_ne hs4), if_neg h0]
              · unfold f_X9_judge_1
                rw [show f_X9_isFlag 1 = some 1 from rfl, ob_some, if_neg (show ¬ (1 : Int32) = 0 by decide), t_isC ht6, ob_some, if_neg (show ¬ (1 : Int32) = 0 by decide), hm, e_hold1 hs4, ob_some, if_neg (show ¬ (1 : Int32) = 0 by decide), if_pos hs2, ob_some, if_neg (show ¬ (1 : Int32) = 0 by decide), if_neg h0]
          · refine ⟨(-12, z_moveMany, z_moves, z_hands, z_paint, z_leasts, z_isSeen, z_classMany), ?_, Or.inl ⟨t, ht6, rfl, Or.inr ⟨rfl, (-12, n_w, w_leasts, w_howMany, w_known), ?_, rfl, RR_mk hF' hV' hI hu hw ht hr hs⟩⟩⟩
            · unfold f_X10_judge
              rw [r_by, ob_some, if_pos hby, if_neg (show ¬ (1 : Int32) = 0 by decide), t_isT ht6, ob_some, if_neg (show ¬ (1 : Int32) = 0 by decide), hs0, ob_some, if_neg (m1_ne hs4), ob_some, if_neg hs2]
            · unfold f_X9_judge_1
              rw [show f_X9_isFlag 1 = some 1 from rfl, ob_some, if_neg (show ¬ (1 : Int32) = 0 by decide), t_isC ht6, ob_some, if_neg (show ¬ (1 : Int32) = 0 by decide), hm, e_hold1 hs4, ob_some, if_neg (show ¬ (1 : Int32) = 0 by decide), if_neg hs2]
    · refine ⟨(-1, z_moveMany, z_moves, z_hands, z_paint, z_leasts, z_isSeen, z_classMany), ?_, Or.inr ⟨-1, ?_, rfl, RR_mk hF' hV' hI hu hw ht hr hs⟩⟩
      · unfold f_X10_judge
        rw [r_by, ob_some, if_pos hby, if_neg (show ¬ (1 : Int32) = 0 by decide), i1, ob_some, if_pos rfl]
      · unfold f_X9_judge_n
        rw [e_flag, ob_some, if_pos hby, if_neg (show ¬ (1 : Int32) = 0 by decide), i2, ob_some, if_pos rfl]
  · refine ⟨(-1, z_moveMany, z_moves, z_hands, z_paint, z_leasts, z_isSeen, z_classMany), ?_, Or.inr ⟨-1, ?_, rfl, RR_mk hF' hV' hI hu hw ht hr hs⟩⟩
    · unfold f_X10_judge
      rw [r_by, ob_some, if_neg hby, if_pos rfl]
    · unfold f_X9_judge_n
      rw [e_flag, ob_some, if_neg hby, if_pos rfl]
