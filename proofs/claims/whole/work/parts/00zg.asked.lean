-- ===== the steps: least, size, same, handed, many, index, part =====
theorem r_by (x : Int32) : f_X10_isBy x = some (if (0 : Int32) ≤ x ∧ x ≤ 1 then 1 else 0) := by
  unfold f_X10_isBy
  rw [show f_X10_in x.toInt64 0 1 = _ from r_inN (l := 0) (h := 1) (by decide) (by decide), ob_some]
  split <;> rfl
theorem e_pp {n k v : Nat} {x : Int32} (hn : n ≤ 6) (hk : k ≤ 6) (h : DI n 0 k x v) : f_X9_packedPainting x (nI n) (nI k) = some (nI (pcode n v)) := by
  unfold f_X9_packedPainting
  rw [show f_X2_packed x (nI n) 0 (nI k) = _ from e_packed (lo := 0) hn (by omega) hk h, ob_some, pcode]
  simp only [Nat.sub_zero]
theorem e_pp_no {n k : Nat} {x : Int32} (hn : n ≤ 6) (hk : k ≤ 6) (h : ¬ ∃ v, DI n 0 k x v) : f_X9_packedPainting x (nI n) (nI k) = some (-1) := by
  unfold f_X9_packedPainting
  rw [show f_X2_packed x (nI n) 0 (nI k) = _ from e_packed_no (lo := 0) hn (by omega) hk h, ob_some]
theorem e_pn {n k P : Nat} (hn : n ≤ 6) (hP : Pt n k P) : f_X9_paintingNumber (nI P) (nI n) = some (nI (cb 10 (dg P) n)) := by
  unfold f_X9_paintingNumber
  rw [show f_X2_number (nI P) (nI n) 0 = _ from e_number (lo := 0) (Pt_31 hP) hn, ob_some]
  rfl
theorem pc_Pt {n k v : Nat} {x : Int32} (hn : n ≤ 6) (hk : k ≤ 4) (h : DI n 0 k x v) : Pt n k (pcode n v) := pcode_Pt hn hk h.2.2
theorem idx_ne {n k P : Nat} (hn : n ≤ 6) (hk : k ≤ 4) (hP : Pt n k P) : ¬ nI (idx n k P) = -1 := by
  have h1 := idx_lt hP
  have h2 := pow_4096 hn hk
  exact fun q => neg_ne (a := idx n k P) (by omega) m1_lt q.symm
theorem nI_neg1 {a : Nat} (h : a < 2 ^ 31) : ¬ nI a = -1 := fun q => neg_ne (a := a) h m1_lt q.symm
theorem op_least : OP_least RR := by
  intro x_hasImage f_places f_kinds f_weights f_howManyGenerators f_generators f_racks f_howManySeen f_seenFirst f_seenSecond f_seenIs f_seenPlaces f_howManyEvents f_eventWhat f_eventNumber g_places g_kinds g_weights g_howManyGenerators g_generators g_racks g_howManySeen g_seenFirst g_seenSecond g_seenIs g_seenPlaces g_howManyEvents g_eventWhat g_eventNumber v_keys v_asFound v_found v_turns v_places p_keys p_asFound p_found p_turns p_places i_sort i_howOften i_sorts i_moves n_u u_leasts u_howMany u_known n_w w_leasts w_howMany w_known t_signs t_length t_whole t_begins t_ends r_sorts r_numbers r_length sr ln it z_thrown z_s z_kept z_isKept z_moveMany z_moves z_hands z_troubles z_troubleSorts z_troubleNumbers z_asked z_paint z_leasts z_isSeen z_classMany z_types z_typeCounts z_typeMany z_text z_signs z_at z_lacks z_clauses z_begun z_letters z_firsts z_seconds z_aside z_sorts z_sizes z_items hR p1 p2
  obtain ⟨n, k, m, gk, w, B, hF, hV, hI, hu, hw, ht, hr, hs⟩ := hR
  have hF' := hF
  obtain ⟨hb, ⟨rfl, rfl, rfl⟩, ⟨hz0, hz1, hz2⟩, hw4, hG, hK, hS, hE⟩ := hF
  have hV' := hV
  obtain ⟨hB, ⟨hKy, hAs, rfl, rfl⟩, rfl⟩ := hV
  have hm4 := hb.2.2.2.2
  have h2n := hb.1
  have h6 := hb.2.1
  have hk1 := hb.2.2.1
  have hk4 := hb.2.2.2.1
  have hKS := KS_of hb hG hB
  have hl := hKS.2
  have hL := srt_len B
  have hpos : 0 < B.length := List.length_pos_of_mem hKS.1.2.2.1
  obtain ⟨mv', hd', hM, e1⟩ := r_moves_ (mv := z_moves) (hd := z_hands) (mm := z_moveMany) hb.2.1 hm4 (ZG_of hz0 hz2 hG) (fun i hi => (hG i hi).1) hB
  by_cases hby : (0 : Int32) ≤ p1 ∧ p1 ≤ 1
  · obtain ⟨b, -, hb1, rfl⟩ := in_nat (l := 0) (h := 1) (by decide) (by decide) hby
    by_cases hd : ∃ v, DI n 0 k p2 v
    · obtain ⟨v, hv⟩ := hd
      have hP := pc_Pt h6 hk4 hv
      have hS2 := lst_Pt h6 (show k ≤ 8 by omega) (BY_Gp (b := b) hKS.1) hP
      obtain ⟨pa1, -, e2⟩ := r_leastOf (pa := z_paint) h6 hk1 hk4 hz0 hz1 hb1 hKS hM hP
      obtain ⟨pa2, e3⟩ := r_tells (pa := pa1) h6 hk1 hk4 hz0 hz1 hS2
      refine ⟨(nI (cb 10 (dg (lst n (pcode n v) (BY b B))) n), nI B.length, mv', hd', pa2), ?_, nI (cb 10 (dg (lst n (pcode n v) (BY b B))) n), ?_, rfl, RR_mk hF' hV' hI hu hw ht hr hs⟩
      · unfold f_X10_least
        rw [r_by, ob_some, if_pos hby, if_neg (show ¬ (1 : Int32) = 0 by decide), r_indexOf h6 hk4 hz0 hz1 hv, ob_some, if_neg (idx_ne h6 hk4 hP), e1, ob_some, e2, ob_some, e3, ob_some]
      · unfold f_X9_least
        rw [e_flag, ob_some, if_pos hby, if_neg (show ¬ (1 : Int32) = 0 by decide), e_pp h6 (by omega) hv, ob_some, if_pos (nI_pos' (Pt_31 hP)), e_least h6 (by omega) hP hb1 hKS hKy, ob_some, e_pn h6 hS2, ob_some]
    · refine ⟨(-2, z_moveMany, z_moves, z_hands, z_paint), ?_, -2, ?_, rfl, RR_mk hF' hV' hI hu hw ht hr hs⟩
      · unfold f_X10_least
        rw [r_by, ob_some, if_pos hby, if_neg (show ¬ (1 : Int32) = 0 by decide), r_indexOf_no (by omega) h6 hk4 hz0 hz1 hd, ob_some, if_pos rfl]
      · unfold f_X9_least
        rw [e_flag, ob_some, if_pos hby, if_neg (show ¬ (1 : Int32) = 0 by decide), e_pp_no h6 (by omega) hd, ob_some, if_neg (by decide)]
  · refine ⟨(-1, z_moveMany, z_moves, z_hands, z_paint), ?_, -1, ?_, rfl, RR_mk hF' hV' hI hu hw ht hr hs⟩
    · unfold f_X10_least
      rw [r_by, ob_some, if_neg hby, if_pos rfl]
    · unfold f_X9_least
      rw [e_flag, ob_some, if_neg hby, if_pos rfl]
theorem op_size : OP_size RR := by
  intro x_hasImage f_places f_kinds f_weights f_howManyGenerators f_generators f_racks f_howManySeen f_seenFirst f_seenSecond f_seenIs f_seenPlaces f_howManyEvents f_eventWhat f_eventNumber g_places g_kinds g_weights g_howManyGenerators g_generators g_racks g_howManySeen g_seenFirst g_seenSecond g_seenIs g_seenPlaces g_howManyEvents g_eventWhat g_eventNumber v_keys v_asFound v_found v_turns v_places p_keys p_asFound p_found p_turns p_places i_sort i_howOften i_sorts i_moves n_u u_leasts u_howMany u_known n_w w_leasts w_howMany w_known t_signs t_length t_whole t_begins t_ends r_sorts r_numbers r_length sr ln it z_thrown z_s z_kept z_isKept z_moveMany z_moves z_hands z_troubles z_troubleSorts z_troubleNumbers z_asked z_paint z_leasts z_isSeen z_classMany z_types z_typeCounts z_typeMany z_text z_signs z_at z_lacks z_clauses z_begun z_letters z_firsts z_seconds z_aside z_sorts z_sizes z_items hR p1 p2
  obtain ⟨n, k, m, gk, w, B, hF, hV, hI, hu, hw, ht, hr, hs⟩ := hR
  have hF' := hF
  obtain ⟨hb, ⟨rfl, rfl, rfl⟩, ⟨hz0, hz1, hz2⟩, hw4, hG, hK, hS, hE⟩ := hF
  have hV' := hV
  obtain ⟨hB, ⟨hKy, hAs, rfl, rfl⟩, rfl⟩ := hV
  have hm4 := hb.2.2.2.2
  have h2n := hb.1
  have h6 := hb.2.1
  have hk1 := hb.2.2.1
  have hk4 := hb.2.2.2.1
  have hKS := KS_of hb hG hB
  have hl := hKS.2
  have hL := srt_len B
  have hpos : 0 < B.length := List.length_pos_of_mem hKS.1.2.2.1
  obtain ⟨mv', hd', hM, e1⟩ := r_moves_ (mv := z_moves) (hd := z_hands) (mm := z_moveMany) hb.2.1 hm4 (ZG_of hz0 hz2 hG) (fun i hi => (hG i hi).1) hB
  by_cases hby : (0 : Int32) ≤ p1 ∧ p1 ≤ 1
  · obtain ⟨b, -, hb1, rfl⟩ := in_nat (l := 0) (h := 1) (by decide) (by decide) hby
    by_cases hd : ∃ v, DI n 0 k p2 v
    · obtain ⟨v, hv⟩ := hd
      have hP := pc_Pt h6 hk4 hv
      obtain ⟨pa1, -, e2⟩ := r_sizeOf (pa := z_paint) h6 hk1 hk4 hz0 hz1 hb1 hKS hM hP
      refine ⟨(nI (siz n (pcode n v) (BY b B)), nI B.length, mv', hd', pa1), ?_, nI (siz n (pcode n v) (BY b B)), ?_, rfl, RR_mk hF' hV' hI hu hw ht hr hs⟩
      · unfold f_X10_size
        rw [r_by, ob_some, if_pos hby, if_neg (show ¬ (1 : Int32) = 0 by decide), r_indexOf h6 hk4 hz0 hz1 hv, ob_some, if_neg (idx_ne h6 hk4 hP), e1, ob_some, e2, ob_some]
      · unfold f_X9_size
        rw [e_flag, ob_some, if_pos hby, if_neg (show ¬ (1 : Int32) = 0 by decide), e_pp h6 (by omega) hv, ob_some, if_pos (nI_pos' (Pt_31 hP)), e_howManyMade h6 hP hb1 hKS hKy, ob_some]
    · refine ⟨(-2, z_moveMany, z_moves, z_hands, z_paint), ?_, -2, ?_, rfl, RR_mk hF' hV' hI hu hw ht hr hs⟩
      · unfold f_X10_size
        rw [r_by, ob_some, if_pos hby, if_neg (show ¬ (1 : Int32) = 0 by decide), r_indexOf_no (by omega) h6 hk4 hz0 hz1 hd, ob_some, if_pos rfl]
      · unfold f_X9_size
        rw [e_flag, ob_some, if_pos hby, if_neg (show ¬ (1 : Int32) = 0 by decide), e_pp_no h6 (by omega) hd, ob_some, if_neg (by decide)]
  · refine ⟨(-1, z_moveMany, z_moves, z_hands, z_paint), ?_, -1, ?_, rfl, RR_mk hF' hV' hI hu hw ht hr hs⟩
    · unfold f_X10_size
      rw [r_by, ob_some, if_neg hby, if_pos rfl]
    · unfold f_X9_size
      rw [e_flag, ob_some, if_neg hby, if_pos rfl]
theorem op_same : OP_same RR := by
  intro x_hasImage f_places f_kinds f_weights f_howManyGenerators f_generators f_racks f_howManySeen f_seenFirst f_seenSecond f_seenIs f_seenPlaces f_howManyEvents f_eventWhat f_eventNumber g_places g_kinds g_weights g_howManyGenerators g_generators g_racks g_howManySeen g_seenFirst g_seenSecond g_seenIs g_seenPlaces g_howManyEvents g_eventWhat g_eventNumber v_keys v_asFound v_found v_turns v_places p_keys p_asFound p_found p_turns p_places i_sort i_howOften i_sorts i_moves n_u u_leasts u_howMany u_known n_w w_leasts w_howMany w_known t_signs t_length t_whole t_begins t_ends r_sorts r_numbers r_length sr ln it z_thrown z_s z_kept z_isKept z_moveMany z_moves z_hands z_troubles z_troubleSorts z_troubleNumbers z_asked z_paint z_leasts z_isSeen z_classMany z_types z_typeCounts z_typeMany z_text z_signs z_at z_lacks z_clauses z_begun z_letters z_firsts z_seconds z_aside z_sorts z_sizes z_items hR p1 p2 p3
  obtain ⟨n, k, m, gk, w, B, hF, hV, hI, hu, hw, ht, hr, hs⟩ := hR
  have hF' := hF
  obtain ⟨hb, ⟨rfl, rfl, rfl⟩, ⟨hz0, hz1, hz2⟩, hw4, hG, hK, hS, hE⟩ := hF
  have hV' := hV
  obtain ⟨hB, ⟨hKy, hAs, rfl, rfl⟩, rfl⟩ := hV
  have hm4 := hb.2.2.2.2
  have h2n := hb.1
  have h6 := hb.2.1
  have hk1 := hb.2.2.1
  have hk4 := hb.2.2.2.1
  have hKS := KS_of hb hG hB
  have hl := hKS.2
  have hL := srt_len B
  have hpos : 0 < B.length := List.length_pos_of_mem hKS.1.2.2.1
  obtain ⟨mv', hd', hM, e1⟩ := r_moves_ (mv := z_moves) (hd := z_hands) (mm := z_moveMany) hb.2.1 hm4 (ZG_of hz0 hz2 hG) (fun i hi => (hG i hi).1) hB
  by_cases hby : (0 : Int32) ≤ p1 ∧ p1 ≤ 1
  · obtain ⟨b, -, hb1, rfl⟩ := in_nat (l := 0) (h := 1) (by decide) (by decide) hby
    by_cases hd : ∃ v, DI n 0 k p2 v
    · obtain ⟨v, hv⟩ := hd
      have hP := pc_Pt h6 hk4 hv
      by_cases hd2 : ∃ v, DI n 0 k p3 v
      · obtain ⟨v2, hv2⟩ := hd2
        have hQ := pc_Pt h6 hk4 hv2
        have hSP := lst_Pt h6 (show k ≤ 8 by omega) (BY_Gp (b := b) hKS.1) hP
        have hSQ := lst_Pt h6 (show k ≤ 8 by omega) (BY_Gp (b := b) hKS.1) hQ
        have i1 := idx_lt hSP
        have i2 := idx_lt hSQ
        have i3 := pow_4096 h6 hk4
        obtain ⟨pa1, -, e2⟩ := r_leastOf (pa := z_paint) h6 hk1 hk4 hz0 hz1 hb1 hKS hM hP
        obtain ⟨pa2, -, e3⟩ := r_leastOf (pa := pa1) h6 hk1 hk4 hz0 hz1 hb1 hKS hM hQ
        refine ⟨(if lst n (pcode n v) (BY b B) = lst n (pcode n v2) (BY b B) then 1 else 0, nI B.length, mv', hd', pa2), ?_, (if lst n (pcode n v) (BY b B) = lst n (pcode n v2) (BY b B) then 1 else 0), ?_, rfl, RR_mk hF' hV' hI hu hw ht hr hs⟩
        · unfold f_X10_same
          rw [r_by, ob_some, if_pos hby, if_neg (show ¬ (1 : Int32) = 0 by decide), r_indexOf h6 hk4 hz0 hz1 hv, ob_some, r_indexOf h6 hk4 hz0 hz1 hv2, ob_some, if_neg (idx_ne h6 hk4 hP), if_neg (idx_ne h6 hk4 hQ), e1, ob_some, e2, ob_some, e3, ob_some]
          by_cases he : lst n (pcode n v) (BY b B) = lst n (pcode n v2) (BY b B)
          · rw [if_pos he, if_pos (by rw [he])]
          · rw [if_neg he, if_neg (fun q => he (idx_inj hSP hSQ (nI_inj (by omega) (by omega) q)))]
        · unfold f_X9_same
          rw [e_flag, ob_some, if_pos hby, if_neg (show ¬ (1 : Int32) = 0 by decide), e_pp h6 (by omega) hv, ob_some, e_pp h6 (by omega) hv2, ob_some, if_neg (nI_pos (Pt_31 hP)), if_pos (nI_pos' (Pt_31 hQ)), e_makes h6 (by omega) hP hQ hb1 hKS hKy, ob_some]
          by_cases he : lst n (pcode n v) (BY b B) = lst n (pcode n v2) (BY b B)
          · rw [if_pos he, if_neg (show ¬ (1 : Int32) = 0 by decide)]
          · rw [if_neg he, if_pos rfl]
      · refine ⟨(-2, z_moveMany, z_moves, z_hands, z_paint), ?_, -2, ?_, rfl, RR_mk hF' hV' hI hu hw ht hr hs⟩
        · unfold f_X10_same
          rw [r_by, ob_some, if_pos hby, if_neg (show ¬ (1 : Int32) = 0 by decide), r_indexOf h6 hk4 hz0 hz1 hv, ob_some, r_indexOf_no (by omega) h6 hk4 hz0 hz1 hd2, ob_some, if_neg (idx_ne h6 hk4 hP), if_pos rfl]
        · unfold f_X9_same
          rw [e_flag, ob_some, if_pos hby, if_neg (show ¬ (1 : Int32) = 0 by decide), e_pp h6 (by omega) hv, ob_some, e_pp_no h6 (by omega) hd2, ob_some, if_neg (nI_pos (Pt_31 hP)), if_neg (by decide)]
    · obtain ⟨w1, hw1⟩ : ∃ w1, f_X10_indexOf p3 z_s = some w1 := by
        by_cases hd2 : ∃ v, DI n 0 k p3 v
        · obtain ⟨v2, hv2⟩ := hd2
          exact ⟨_, r_indexOf h6 hk4 hz0 hz1 hv2⟩
        · exact ⟨_, r_indexOf_no (by omega) h6 hk4 hz0 hz1 hd2⟩
      obtain ⟨w2, hw2⟩ : ∃ w2, f_X9_packedPainting p3 (nI n) (nI k) = some w2 := by
        by_cases hd2 : ∃ v, DI n 0 k p3 v
        · obtain ⟨v2, hv2⟩ := hd2
          exact ⟨_, e_pp h6 (by omega) hv2⟩
        · exact ⟨_, e_pp_no h6 (by omega) hd2⟩
      refine ⟨(-2, z_moveMany, z_moves, z_hands, z_paint), ?_, -2, ?_, rfl, RR_mk hF' hV' hI hu hw ht hr hs⟩
      · unfold f_X10_same
        rw [r_by, ob_some, if_pos hby, if_neg (show ¬ (1 : Int32) = 0 by decide), r_indexOf_no (by omega) h6 hk4 hz0 hz1 hd, ob_some, hw1, ob_some, if_pos rfl]
      · unfold f_X9_same
        rw [e_flag, ob_some, if_pos hby, if_neg (show ¬ (1 : Int32) = 0 by decide), e_pp_no h6 (by omega) hd, ob_some, hw2, ob_some, if_pos m1_lt]
  · refine ⟨(-1, z_moveMany, z_moves, z_hands, z_paint), ?_, -1, ?_, rfl, RR_mk hF' hV' hI hu hw ht hr hs⟩
    · unfold f_X10_same
      rw [r_by, ob_some, if_neg hby, if_pos rfl]
    · unfold f_X9_same
      rw [e_flag, ob_some, if_neg hby, if_pos rfl]
theorem cnt_even {B : List Nat} : B.countP (fun K => decide (K % 2 = 0)) = (B0 B).length := List.countP_eq_length_filter
theorem op_handed : OP_handed RR := by
  intro x_hasImage f_places f_kinds f_weights f_howManyGenerators f_generators f_racks f_howManySeen f_seenFirst f_seenSecond f_seenIs f_seenPlaces f_howManyEvents f_eventWhat f_eventNumber g_places g_kinds g_weights g_howManyGenerators g_generators g_racks g_howManySeen g_seenFirst g_seenSecond g_seenIs g_seenPlaces g_howManyEvents g_eventWhat g_eventNumber v_keys v_asFound v_found v_turns v_places p_keys p_asFound p_found p_turns p_places i_sort i_howOften i_sorts i_moves n_u u_leasts u_howMany u_known n_w w_leasts w_howMany w_known t_signs t_length t_whole t_begins t_ends r_sorts r_numbers r_length sr ln it z_thrown z_s z_kept z_isKept z_moveMany z_moves z_hands z_troubles z_troubleSorts z_troubleNumbers z_asked z_paint z_leasts z_isSeen z_classMany z_types z_typeCounts z_typeMany z_text z_signs z_at z_lacks z_clauses z_begun z_letters z_firsts z_seconds z_aside z_sorts z_sizes z_items hR p1 p2
  obtain ⟨n, k, m, gk, w, B, hF, hV, hI, hu, hw, ht, hr, hs⟩ := hR
  have hF' := hF
  obtain ⟨hb, ⟨rfl, rfl, rfl⟩, ⟨hz0, hz1, hz2⟩, hw4, hG, hK, hS, hE⟩ := hF
  have hV' := hV
  obtain ⟨hB, ⟨hKy, hAs, rfl, rfl⟩, rfl⟩ := hV
  have hm4 := hb.2.2.2.2
  have h2n := hb.1
  have h6 := hb.2.1
  have hk1 := hb.2.2.1
  have hk4 := hb.2.2.2.1
  have hKS := KS_of hb hG hB
  have hl := hKS.2
  have hL := srt_len B
  have hpos : 0 < B.length := List.length_pos_of_mem hKS.1.2.2.1
  obtain ⟨mv', hd', hM, e1⟩ := r_moves_ (mv := z_moves) (hd := z_hands) (mm := z_moveMany) hb.2.1 hm4 (ZG_of hz0 hz2 hG) (fun i hi => (hG i hi).1) hB
  have ein : f_X10_in (p2.toInt64) 0 1 = some (if (0 : Int32) ≤ p2 ∧ p2 ≤ 1 then 1 else 0) := r_inN (by decide) (by decide)
  have hle0 : (B0 B).length ≤ B.length := BY_len (b := 0)
  by_cases hby : (0 : Int32) ≤ p2 ∧ p2 ≤ 1
  · by_cases hd : ∃ v, DI n 0 k p1 v
    · obtain ⟨v, hv⟩ := hd
      have hP := pc_Pt h6 hk4 hv
      have hcom : ∀ {r : Option Int32}, (if nI B.length ≤ nI (B.countP (fun K => decide (K % 2 = 0))) then ((f_X5_leastMade (nI (pcode n v)) 1 1 v_keys (nI B.length) (nI n)).bind fun t6 => if p2 = 1 then (some ((-5))) else (some (0))) else ((f_X5_leastMade (nI (pcode n v)) 1 1 v_keys (nI B.length) (nI n)).bind fun t10 => if p2 = 1 then ((f_X9_paintingNumber t10 (nI n)).bind fun t16 => some (t16)) else ((f_X5_leastMade (nI (pcode n v)) 0 0 v_keys (nI B.length) (nI n)).bind fun t13 => if t10 = t13 then (some (0)) else (some (1))))) = r → f_X9_handed p1 p2 (nI n) (nI k) v_keys (nI B.length) (nI (B.countP (fun K => decide (K % 2 = 0)))) (nI n) = r := by
        intro r h
        unfold f_X9_handed
        rw [e_flag, ob_some, if_pos hby, if_neg (show ¬ (1 : Int32) = 0 by decide), e_pp h6 (by omega) hv, ob_some, if_pos (nI_pos' (Pt_31 hP))]
        exact h
      have href : ∀ {r : Option (Int32 × Int32 × (Nat → Int32) × (Nat → Int32) × (Nat → Int32))}, (if p2 = 0 then ((f_X10_isHanded (nI (idx n k (pcode n v))) z_s (nI B.length) mv' hd' z_paint).bind fun t11 => if t11.1 = 0 then (some ((0 : Int32), nI B.length, mv', hd', t11.2)) else (some (1, nI B.length, mv', hd', t11.2))) else ((f_X10_mirrors (nI B.length) hd').bind fun t7 => if t7 = 0 then (some ((-5), nI B.length, mv', hd', z_paint)) else ((f_X10_otherHand (nI (idx n k (pcode n v))) z_s (nI B.length) mv' hd' z_paint).bind fun t9 => (f_X10_tellsPainting t9.1 z_s t9.2).bind fun t10 => some (t10.1, nI B.length, mv', hd', t10.2)))) = r → f_X10_handed p1 p2 z_s z_moveMany z_moves z_hands z_paint = r := by
        intro r h
        unfold f_X10_handed
        rw [ein, ob_some, if_pos hby, if_neg (show ¬ (1 : Int32) = 0 by decide), r_indexOf h6 hk4 hz0 hz1 hv, ob_some, if_neg (idx_ne h6 hk4 hP), e1, ob_some]
        exact h
      by_cases hm : ∃ mm ∈ B, mm % 2 = 1
      · obtain ⟨mm, hm1, hm2⟩ := hm
        have hp := mirrors_pos.mpr ⟨mm, hm1, hm2⟩
        have hne : ¬ nI B.length ≤ nI (B.countP (fun K => decide (K % 2 = 0))) := by
          rw [cnt_even]
          exact nI_ge (by omega) (by omega)
        have hO := oth_Pt h6 (show k ≤ 8 by omega) hKS.1 hm1 hP
        have hS2 := lst_Pt h6 (show k ≤ 8 by omega) (B0_Gp hKS.1) hP
        have e4 := e_other h6 (show k ≤ 8 by omega) hP hKS hKy hm1 hm2
        have e5 := e_least (b := 0) h6 (show k ≤ 8 by omega) hP (by omega) hKS hKy
        by_cases h0 : p2 = 0
        · have h1 : ¬ p2 = 1 := by rw [h0]; decide
          obtain ⟨pa', g1, g2⟩ := r_isHanded (pa := z_paint) h6 hk1 hk4 hz0 hz1 hKS hM hP
          by_cases hh : hnd n (pcode n v) B
          · refine ⟨(1, nI B.length, mv', hd', pa'), href ?_, 1, hcom ?_, rfl, RR_mk hF' hV' hI hu hw ht hr hs⟩
            · rw [if_pos h0, g1 hh, ob_some, if_neg (show ¬ (1 : Int32) = 0 by decide)]
            · rw [if_neg hne, e4, ob_some, if_neg h1, show f_X5_leastMade (nI (pcode n v)) 0 0 v_keys (nI B.length) (nI n) = _ from e5, ob_some, if_neg]
              intro q
              obtain ⟨m', hm1', hm2', hne2⟩ := hh
              have q2 := nI_inj (Pt_31 hO) (Pt_31 hS2) q
              rw [oth_any h6 (show k ≤ 8 by omega) hKS.1 hm1' hm2' hm1 hm2 hP] at hne2
              exact hne2 q2
          · refine ⟨(0, nI B.length, mv', hd', pa'), href ?_, 0, hcom ?_, rfl, RR_mk hF' hV' hI hu hw ht hr hs⟩
            · rw [if_pos h0, g2 hh, ob_some, if_pos rfl]
            · rw [if_neg hne, e4, ob_some, if_neg h1, show f_X5_leastMade (nI (pcode n v)) 0 0 v_keys (nI B.length) (nI n) = _ from e5, ob_some, if_pos]
              show nI (oth n mm (pcode n v) B) = nI (lst n (pcode n v) (B0 B))
              apply congrArg
              apply Classical.byContradiction
              intro q
              exact hh ⟨mm, hm1, hm2, q⟩
        · have h1 : p2 = 1 := (flag_01 hby).resolve_left h0
          obtain ⟨pa1, g1⟩ := r_otherHand (pa := z_paint) h6 hk1 hk4 hz0 hz1 hKS hM hP hm1 hm2
          obtain ⟨pa2, g2⟩ := r_tells (pa := pa1) h6 hk1 hk4 hz0 hz1 hO
          refine ⟨(nI (cb 10 (dg (oth n mm (pcode n v) B)) n), nI B.length, mv', hd', pa2), href ?_, nI (cb 10 (dg (oth n mm (pcode n v) B)) n), hcom ?_, rfl, RR_mk hF' hV' hI hu hw ht hr hs⟩
          · rw [if_neg h0, r_mirrors hl hM, ob_some, if_neg (nI_ne0 hp (by omega)), g1, ob_some, g2, ob_some]
          · rw [if_neg hne, e4, ob_some, if_pos h1, e_pn h6 hO, ob_some]
      · have hz : B.length - (B0 B).length = 0 := by
          have := mirrors_pos (B := B)
          by_cases h : 0 < B.length - (B0 B).length
          · exact absurd (this.mp h) hm
          · omega
        have hle : nI B.length ≤ nI (B.countP (fun K => decide (K % 2 = 0))) := by
          rw [cnt_even]
          exact nI_le (by omega) (by omega)
        have e4 := e_other_no h6 (show k ≤ 8 by omega) hP hKS hKy (fun q hq => by
          rcases Nat.mod_two_eq_zero_or_one q with e | e
          · exact e
          · exact absurd ⟨q, hq, e⟩ hm)
        by_cases h0 : p2 = 0
        · have h1 : ¬ p2 = 1 := by rw [h0]; decide
          obtain ⟨pa', g1, g2⟩ := r_isHanded (pa := z_paint) h6 hk1 hk4 hz0 hz1 hKS hM hP
          refine ⟨(0, nI B.length, mv', hd', pa'), href ?_, 0, hcom ?_, rfl, RR_mk hF' hV' hI hu hw ht hr hs⟩
          · rw [if_pos h0, g2 (fun ⟨q, hq, hq2, _⟩ => hm ⟨q, hq, hq2⟩), ob_some, if_pos rfl]
          · rw [if_pos hle, e4, ob_some, if_neg h1]
        · have h1 : p2 = 1 := (flag_01 hby).resolve_left h0
          refine ⟨(-5, nI B.length, mv', hd', z_paint), href ?_, -5, hcom ?_, rfl, RR_mk hF' hV' hI hu hw ht hr hs⟩
          · rw [if_neg h0, r_mirrors hl hM, ob_some, hz, if_pos (show nI 0 = (0 : Int32) from rfl)]
          · rw [if_pos hle, e4, ob_some, if_pos h1]
    · refine ⟨(-2, z_moveMany, z_moves, z_hands, z_paint), ?_, -2, ?_, rfl, RR_mk hF' hV' hI hu hw ht hr hs⟩
      · unfold f_X10_handed
        rw [ein, ob_some, if_pos hby, if_neg (show ¬ (1 : Int32) = 0 by decide), r_indexOf_no (by omega) h6 hk4 hz0 hz1 hd, ob_some, if_pos rfl]
      · unfold f_X9_handed
        rw [e_flag, ob_some, if_pos hby, if_neg (show ¬ (1 : Int32) = 0 by decide), e_pp_no h6 (by omega) hd, ob_some, if_neg (by decide)]
  · refine ⟨(-1, z_moveMany, z_moves, z_hands, z_paint), ?_, -1, ?_, rfl, RR_mk hF' hV' hI hu hw ht hr hs⟩
    · unfold f_X10_handed
      rw [ein, ob_some, if_neg hby, if_pos rfl]
    · unfold f_X9_handed
      rw [e_flag, ob_some, if_neg hby, if_pos rfl]
