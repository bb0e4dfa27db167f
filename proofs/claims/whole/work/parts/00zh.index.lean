-- ===== the steps: many, index, part, told =====
theorem r_allClasses {z mv hd pa le se : Nat → Int32} {mm cm : Int32} {n k m b : Nat} {gk : Nat → Nat} {B : List Nat} (hn : n ≤ 6) (hk1 : 1 ≤ k) (hk : k ≤ 4) (hm : m ≤ 4) (hZ : ZG z n m gk) (hz1 : z 1 = nI k) (hg : ∀ i, i < m → Mv n (gk i)) (hB : gen n (sel (2 ^ m - 1) gk m 0) = some B) (hb : b ≤ 1) (hK : KS B n) :
    ∃ mv' hd' pa' le' se', MA mv' hd' n (srt B) ∧ AKi le' n k (LQ n k (BY b B) (k ^ n)) ∧ f_X10_allClasses (nI b) z mm mv hd pa le se cm = some (nI B.length, mv', hd', pa', le', se', nI (LQ n k (BY b B) (k ^ n)).length) := by
  unfold f_X10_allClasses
  obtain ⟨mv', hd', hM, e1⟩ := r_moves_ (mv := mv) (hd := hd) (mm := mm) hn hm hZ hg hB
  obtain ⟨pa', le', se', h1, e2⟩ := r_classes (pa := pa) (le := le) (se := se) (cm := cm) hn hk1 hk hZ.1 hz1 hb hK hM
  rw [e1, ob_some, e2, ob_some]
  exact ⟨mv', hd', pa', le', se', hM, h1, rfl⟩
theorem r_classesBy {z mv hd pa le se : Nat → Int32} {mm cm : Int32} {n k m b : Nat} {gk : Nat → Nat} {B : List Nat} (hn : n ≤ 6) (hk1 : 1 ≤ k) (hk : k ≤ 4) (hm : m ≤ 4) (hZ : ZG z n m gk) (hz1 : z 1 = nI k) (hg : ∀ i, i < m → Mv n (gk i)) (hB : gen n (sel (2 ^ m - 1) gk m 0) = some B) (hb : b ≤ 1) (hK : KS B n) :
    ∃ mv' hd' pa' le' se' cm', f_X10_classesBy (nI b) z mm mv hd pa le se cm = some (nI (LQ n k (BY b B) (k ^ n)).length, nI B.length, mv', hd', pa', le', se', cm') := by
  unfold f_X10_classesBy
  obtain ⟨mv', hd', pa', le', se', hM, h1, e⟩ := r_allClasses (mv := mv) (hd := hd) (mm := mm) (pa := pa) (le := le) (se := se) (cm := cm) hn hk1 hk hm hZ hz1 hg hB hb hK
  rw [e, ob_some]
  exact ⟨_, _, _, _, _, _, rfl⟩
theorem e_howManyClasses {n k b : Nat} {B : List Nat} {keys so of_ : Nat → Int32} {ss mo : Int32} (h2 : 2 ≤ n) (hn : n ≤ 6) (hk1 : 1 ≤ k) (hk : k ≤ 4) (hb : b ≤ 1) (hB : KS B n) (hA : AK keys (srt B)) : ∃ so' of' ss' mo', f_X9_howManyClasses (nI b) (nI k) keys (nI B.length) (nI (B.countP (fun K => decide (K % 2 = 0)))) (nI n) so of_ ss mo = some (nI (LQ n k (BY b B) (k ^ n)).length, so', of', ss', mo') := by
  unfold f_X9_howManyClasses
  obtain ⟨so', of', ss', hI, e⟩ := e_fill (so := so) (of_ := of_) (ss := ss) (mo := mo) h2 hn hb hB hA
  rw [e, ob_some, e_classesFor h2 hn (show k ≤ 9 by omega) hb hB hI, ob_some, lN_i, mny_k h2 hn hk1 (by omega) (BY_Gp hB.1)]
  exact ⟨_, _, _, _, rfl⟩
theorem op_many : OP_many RR := by
  intro x_hasImage f_places f_kinds f_weights f_howManyGenerators f_generators f_racks f_howManySeen f_seenFirst f_seenSecond f_seenIs f_seenPlaces f_howManyEvents f_eventWhat f_eventNumber g_places g_kinds g_weights g_howManyGenerators g_generators g_racks g_howManySeen g_seenFirst g_seenSecond g_seenIs g_seenPlaces g_howManyEvents g_eventWhat g_eventNumber v_keys v_asFound v_found v_turns v_places p_keys p_asFound p_found p_turns p_places i_sort i_howOften i_sorts i_moves n_u u_leasts u_howMany u_known n_w w_leasts w_howMany w_known t_signs t_length t_whole t_begins t_ends r_sorts r_numbers r_length sr ln it z_thrown z_s z_kept z_isKept z_moveMany z_moves z_hands z_troubles z_troubleSorts z_troubleNumbers z_asked z_paint z_leasts z_isSeen z_classMany z_types z_typeCounts z_typeMany z_text z_signs z_at z_lacks z_clauses z_begun z_letters z_firsts z_seconds z_aside z_sorts z_sizes z_items hR p1 p2
  obtain ⟨n, k, m, gk, w, B, hF, hV, hI, hu, hw, ht, hr, hs⟩ := hR
  have hF' := hF
  obtain ⟨hb, ⟨rfl, rfl, rfl⟩, ⟨hz0, hz1, hz2⟩, hw4, hG, hK, hS, hE⟩ := hF
  have hV' := hV
  obtain ⟨hB, ⟨hKy, hAs, rfl, rfl⟩, rfl⟩ := hV
  have hm4 := hb.2.2.2.2
  have h2n := hb.1
  have h6 := hb.2.1
  have hk1 := hb.2.2.1
  have hk4 := hb.2.2.2.1
  have hKS := KS_of hb hG hB
  have hl := hKS.2
  have hL := srt_len B
  have hpos : 0 < B.length := List.length_pos_of_mem hKS.1.2.2.1
  obtain ⟨mv', hd', hM, e1⟩ := r_moves_ (mv := z_moves) (hd := z_hands) (mm := z_moveMany) hb.2.1 hm4 (ZG_of hz0 hz2 hG) (fun i hi => (hG i hi).1) hB
  have ein : f_X10_in (p2.toInt64) 0 9 = some (if (0 : Int32) ≤ p2 ∧ p2 ≤ 9 then 1 else 0) := r_inN (by decide) (by decide)
  by_cases hby : (0 : Int32) ≤ p1 ∧ p1 ≤ 1
  · obtain ⟨b, -, hb1, rfl⟩ := in_nat (l := 0) (h := 1) (by decide) (by decide) hby
    by_cases hin : (0 : Int32) ≤ p2 ∧ p2 ≤ 9
    · obtain ⟨x, -, hx, rfl⟩ := in_nat (l := 0) (h := 9) (by decide) (by decide) hin
      obtain ⟨so', of', ss', hIx, e2⟩ := e_fill (so := i_sort) (of_ := i_howOften) (ss := i_sorts) (mo := i_moves) h2n h6 hb1 hKS hKy
      obtain ⟨as', e3⟩ := r_many_L (b := b) h2n h6 hz0 hb1 hx hKS hM (fun l3_6 _ z_asked_6 => (f_X10_manyOf (nI b) (nI B.length) hd').bind fun t7 => (q_ld l3_6 ((t7 : Int32).toInt64)).bind fun t8 => some (t8, nI B.length, mv', hd', z_asked_6)) B.length 0 q_fu 0 z_asked (by omega) (fu_lt (by omega))
      have hlb := BY_len (b := b) (B := B)
      have hpb : 0 < (BY b B).length := List.length_pos_of_mem (BY_Gp (b := b) hKS.1).2.2.1
      have hmul : (BY b B).length * 531441 ≤ 120 * 531441 := Nat.mul_le_mul_right _ (by omega)
      have hml := mny_lt (n := n) (x := x) (B := BY b B) h6 hx
      refine ⟨(lN (mny n x (BY b B)), nI B.length, mv', hd', as'), ?_, (lN (mny n x (BY b B)), so', of', ss', nI (BY b B).length), ?_, rfl, RR_mk hF' hV' hI hu hw ht hr hs⟩
      · unfold f_X10_many
        rw [r_by, ob_some, if_pos hby, if_neg (show ¬ (1 : Int32) = 0 by decide), ein, ob_some, if_pos hin, if_neg (show ¬ (1 : Int32) = 0 by decide), e1, ob_some]
        refine Eq.trans e3 ?_
        show (f_X10_manyOf (nI b) (nI B.length) hd').bind _ = _
        rw [r_manyOf hb1 hl hM, ob_some, List.drop_zero, Nat.zero_add, sm_perm (filt_BY hb1), nI_l (by omega), qe_ld (by omega) (by omega) hpb, ob_some, mny]
      · unfold f_X9_many
        rw [e_flag, ob_some, if_pos hby, if_neg (show ¬ (1 : Int32) = 0 by decide), if_neg (nlt_le.mpr hin.1), if_pos hin.2, e2, ob_some, e_classesFor h2n h6 hx hb1 hKS hIx, ob_some]
    · refine ⟨(-9223372036854775808, z_moveMany, z_moves, z_hands, z_asked), ?_, (-9223372036854775808, i_sort, i_howOften, i_sorts, i_moves), ?_, rfl, RR_mk hF' hV' hI hu hw ht hr hs⟩
      · unfold f_X10_many
        rw [r_by, ob_some, if_pos hby, if_neg (show ¬ (1 : Int32) = 0 by decide), ein, ob_some, if_neg hin, if_pos rfl]
      · unfold f_X9_many
        rw [e_flag, ob_some, if_pos hby, if_neg (show ¬ (1 : Int32) = 0 by decide)]
        by_cases h1 : p2 < 0
        · rw [if_pos h1]
        · rw [if_neg h1, if_neg (fun q => hin ⟨nlt_le.mp h1, q⟩)]
  · refine ⟨(-9223372036854775808, z_moveMany, z_moves, z_hands, z_asked), ?_, (-9223372036854775808, i_sort, i_howOften, i_sorts, i_moves), ?_, rfl, RR_mk hF' hV' hI hu hw ht hr hs⟩
    · unfold f_X10_many
      rw [r_by, ob_some, if_neg hby, if_pos rfl]
    · unfold f_X9_many
      rw [e_flag, ob_some, if_neg hby, if_pos rfl]
/-- a number within a row, or not -/
theorem row_dec (x : Int32) {c : Nat} (hc : 0 < c) (hc2 : c < 2 ^ 31) : (∃ v, v < c ∧ x = nI v) ∨ ¬ ((0 : Int32) ≤ x ∧ x ≤ nI (c - 1)) ∧ (x < 0 ∨ nI c ≤ x) := by
  by_cases h0 : x < 0
  · exact Or.inr ⟨fun q => nlt_le.mpr q.1 h0, Or.inl h0⟩
  · obtain ⟨v, hv, rfl⟩ := nI_of h0
    by_cases h1 : v < c
    · exact Or.inl ⟨v, h1, rfl⟩
    · refine Or.inr ⟨fun q => ?_, Or.inr (nI_le (by omega) hv)⟩
      have := (nI_leI hv (by omega)).mp q.2
      omega
theorem row_in {v c : Nat} (hv : v < c) (hc2 : c < 2 ^ 31) : (0 : Int32) ≤ nI v ∧ nI v ≤ nI (c - 1) := ⟨nI_pos' (by omega), nI_le (by omega) (by omega)⟩
theorem TT_len {n b : Nat} {B : List Nat} {so of_ : Nat → Int32} {ss : Int32} (hb : b ≤ 1) (hB : Gp n B) (hI : IX n (TT n b B) so of_ ss) : 0 < (TT n b B).length ∧ (TT n b B).length ≤ 11 := by
  refine ⟨?_, IX_len hI.2.2.2.1 hI.2.2.2.2⟩
  have h : tsum (fun _ => 1) (TT n b B) = (BY b B).length := by rw [tsum_TT (fun _ => 1) hb, sm_const, Nat.mul_one]
  have hp : 0 < (BY b B).length := List.length_pos_of_mem (BY_Gp (b := b) hB).2.2.1
  cases hT : TT n b B with
  | nil =>
    rw [hT] at h
    have : tsum (fun _ => 1) [] = 0 := rfl
    omega
  | cons a l => simp
theorem op_index : OP_index RR := by
  intro x_hasImage f_places f_kinds f_weights f_howManyGenerators f_generators f_racks f_howManySeen f_seenFirst f_seenSecond f_seenIs f_seenPlaces f_howManyEvents f_eventWhat f_eventNumber g_places g_kinds g_weights g_howManyGenerators g_generators g_racks g_howManySeen g_seenFirst g_seenSecond g_seenIs g_seenPlaces g_howManyEvents g_eventWhat g_eventNumber v_keys v_asFound v_found v_turns v_places p_keys p_asFound p_found p_turns p_places i_sort i_howOften i_sorts i_moves n_u u_leasts u_howMany u_known n_w w_leasts w_howMany w_known t_signs t_length t_whole t_begins t_ends r_sorts r_numbers r_length sr ln it z_thrown z_s z_kept z_isKept z_moveMany z_moves z_hands z_troubles z_troubleSorts z_troubleNumbers z_asked z_paint z_leasts z_isSeen z_classMany z_types z_typeCounts z_typeMany z_text z_signs z_at z_lacks z_clauses z_begun z_letters z_firsts z_seconds z_aside z_sorts z_sizes z_items hR p1 p2 p3
  obtain ⟨n, k, m, gk, w, B, hF, hV, hI, hu, hw, ht, hr, hs⟩ := hR
  have hF' := hF
  obtain ⟨hb, ⟨rfl, rfl, rfl⟩, ⟨hz0, hz1, hz2⟩, hw4, hG, hK, hS, hE⟩ := hF
  have hV' := hV
  obtain ⟨hB, ⟨hKy, hAs, rfl, rfl⟩, rfl⟩ := hV
  have hm4 := hb.2.2.2.2
  have h2n := hb.1
  have h6 := hb.2.1
  have hk1 := hb.2.2.1
  have hk4 := hb.2.2.2.1
  have hKS := KS_of hb hG hB
  have hl := hKS.2
  have hL := srt_len B
  have hpos : 0 < B.length := List.length_pos_of_mem hKS.1.2.2.1
  obtain ⟨mv', hd', hM, e1⟩ := r_moves_ (mv := z_moves) (hd := z_hands) (mm := z_moveMany) hb.2.1 hm4 (ZG_of hz0 hz2 hG) (fun i hi => (hG i hi).1) hB
  by_cases hby : (0 : Int32) ≤ p1 ∧ p1 ≤ 1
  · obtain ⟨b, -, hb1, rfl⟩ := in_nat (l := 0) (h := 1) (by decide) (by decide) hby
    obtain ⟨so', of', ss', hIx, e2⟩ := e_fill (so := i_sort) (of_ := i_howOften) (ss := i_sorts) (mo := i_moves) h2n h6 hb1 hKS hKy
    obtain ⟨mv2, hd2, as2, ty2, tc2, tm2, hM2, hIr, e3⟩ := r_indexes (mv := z_moves) (hd := z_hands) (mm := z_moveMany) (as := z_asked) (ty := z_types) (tc := z_typeCounts) (tm := z_typeMany) h2n h6 hm4 (ZG_of hz0 hz2 hG) (fun i hi => (hG i hi).1) hB hb1 hKS
    obtain ⟨hT0, hT11⟩ := TT_len hb1 hKS.1 hIx
    have hf := fsts_len (TT n b B)
    have hsn := snds_len (TT n b B)
    obtain ⟨hA1, hA2, rfl, -, -⟩ := hIx
    obtain ⟨hR1, hR2, rfl, -, -⟩ := hIr
    have hcl : ∀ {r : Option (Int32 × (Nat → Int32) × (Nat → Int32) × Int32 × Int32)}, (if p2 = ((-1)) then (some (nI (TT n b B).length, so', of', nI (TT n b B).length, nI (BY b B).length)) else (if p2 < 0 then (some ((-1), so', of', nI (TT n b B).length, nI (BY b B).length)) else (if nI (TT n b B).length ≤ p2 then (some ((-1), so', of', nI (TT n b B).length, nI (BY b B).length)) else ((f_X9_isFlag p3).bind fun t7 => if t7 = 0 then (some ((-1), so', of', nI (TT n b B).length, nI (BY b B).length)) else (if p3 = 0 then ((q_rd so' 11 p2).bind fun t11 => some (t11, so', of', nI (TT n b B).length, nI (BY b B).length)) else ((q_rd of' 11 p2).bind fun t10 => some (t10, so', of', nI (TT n b B).length, nI (BY b B).length))))))) = r → f_X9_index (nI b) p2 p3 v_keys (nI B.length) (nI (B.countP (fun K => decide (K % 2 = 0)))) (nI n) i_sort i_howOften i_sorts i_moves = r := by
      intro r h
      unfold f_X9_index
      rw [e_flag, ob_some, if_pos hby, if_neg (show ¬ (1 : Int32) = 0 by decide), e2, ob_some]
      exact h
    have ein2 : f_X10_in (p2.toInt64) 0 ((nI (TT n b B).length - 1 : Int32).toInt64) = some (if (0 : Int32) ≤ p2 ∧ p2 ≤ nI (TT n b B).length - 1 then 1 else 0) := r_inN (l := 0) (by decide) rfl
    rw [nI_dec hT0] at ein2
    have ein3 : f_X10_in (p3.toInt64) 0 1 = some (if (0 : Int32) ≤ p3 ∧ p3 ≤ 1 then 1 else 0) := r_inN (by decide) (by decide)
    have hrf : ∀ {r : Option (Int32 × Int32 × (Nat → Int32) × (Nat → Int32) × (Nat → Int32) × (Nat → Int32) × (Nat → Int32) × Int32)}, (if p2 = ((-1)) then (some (nI (TT n b B).length, nI B.length, mv2, hd2, as2, ty2, tc2, nI (TT n b B).length)) else (if (if (0 : Int32) ≤ p2 ∧ p2 ≤ nI ((TT n b B).length - 1) then (1 : Int32) else 0) = 0 then (some ((-1), nI B.length, mv2, hd2, as2, ty2, tc2, nI (TT n b B).length)) else (if (if (0 : Int32) ≤ p3 ∧ p3 ≤ 1 then (1 : Int32) else 0) = 0 then (some ((-1), nI B.length, mv2, hd2, as2, ty2, tc2, nI (TT n b B).length)) else (if p3 = 0 then ((q_rd ty2 120 p2).bind fun t11 => some (t11, nI B.length, mv2, hd2, as2, ty2, tc2, nI (TT n b B).length)) else ((q_rd tc2 120 p2).bind fun t10 => some (t10, nI B.length, mv2, hd2, as2, ty2, tc2, nI (TT n b B).length)))))) = r → f_X10_index (nI b) p2 p3 z_s z_moveMany z_moves z_hands z_asked z_types z_typeCounts z_typeMany = r := by
      intro r h
      unfold f_X10_index
      rw [r_by, ob_some, if_pos hby, if_neg (show ¬ (1 : Int32) = 0 by decide), e3, ob_some]
      show (if p2 = -1 then _ else (f_X10_in (p2.toInt64) 0 ((nI (TT n b B).length - 1 : Int32).toInt64)).bind _) = r
      rw [nI_dec hT0, ein2, ein3, ob_some, ob_some]
      exact h
    by_cases hm1 : p2 = -1
    · refine ⟨(nI (TT n b B).length, nI B.length, mv2, hd2, as2, ty2, tc2, nI (TT n b B).length), hrf (if_pos hm1), (nI (TT n b B).length, so', of', nI (TT n b B).length, nI (BY b B).length), hcl (if_pos hm1), rfl, RR_mk hF' hV' hI hu hw ht hr hs⟩
    · rcases row_dec p2 hT0 (by omega) with ⟨v, hv, rfl⟩ | ⟨q1, q2⟩
      · have hin := row_in hv (by omega)
        by_cases h3 : (0 : Int32) ≤ p3 ∧ p3 ≤ 1
        · by_cases h30 : p3 = 0
          · refine ⟨(nI ((fsts (TT n b B)).getD v 0), nI B.length, mv2, hd2, as2, ty2, tc2, nI (TT n b B).length), hrf ?_, (nI ((fsts (TT n b B)).getD v 0), so', of', nI (TT n b B).length, nI (BY b B).length), hcl ?_, rfl, RR_mk hF' hV' hI hu hw ht hr hs⟩
            · rw [if_neg hm1, if_pos hin, if_neg (show ¬ (1 : Int32) = 0 by decide), if_pos h3, if_neg (show ¬ (1 : Int32) = 0 by decide), if_pos h30, qe_rd _ (by omega) (by decide), ob_some, hR1 v (by omega)]
            · rw [if_neg hm1, if_neg (nI_pos (by omega)), if_neg (nI_ge hv (by omega)), e_flag, ob_some, if_pos h3, if_neg (show ¬ (1 : Int32) = 0 by decide), if_pos h30, qe_rd _ (by omega) (by decide), ob_some, hA1 v (by omega)]
          · refine ⟨(nI ((snds (TT n b B)).getD v 0), nI B.length, mv2, hd2, as2, ty2, tc2, nI (TT n b B).length), hrf ?_, (nI ((snds (TT n b B)).getD v 0), so', of', nI (TT n b B).length, nI (BY b B).length), hcl ?_, rfl, RR_mk hF' hV' hI hu hw ht hr hs⟩
            · rw [if_neg hm1, if_pos hin, if_neg (show ¬ (1 : Int32) = 0 by decide), if_pos h3, if_neg (show ¬ (1 : Int32) = 0 by decide), if_neg h30, qe_rd _ (by omega) (by decide), ob_some, hR2 v (by omega)]
            · rw [if_neg hm1, if_neg (nI_pos (by omega)), if_neg (nI_ge hv (by omega)), e_flag, ob_some, if_pos h3, if_neg (show ¬ (1 : Int32) = 0 by decide), if_neg h30, qe_rd _ (by omega) (by decide), ob_some, hA2 v (by omega)]
        · refine ⟨(-1, nI B.length, mv2, hd2, as2, ty2, tc2, nI (TT n b B).length), hrf ?_, (-1, so', of', nI (TT n b B).length, nI (BY b B).length), hcl ?_, rfl, RR_mk hF' hV' hI hu hw ht hr hs⟩
          · rw [if_neg hm1, if_pos hin, if_neg (show ¬ (1 : Int32) = 0 by decide), if_neg h3, if_pos rfl]
          · rw [if_neg hm1, if_neg (nI_pos (by omega)), if_neg (nI_ge hv (by omega)), e_flag, ob_some, if_neg h3, if_pos rfl]
      · refine ⟨(-1, nI B.length, mv2, hd2, as2, ty2, tc2, nI (TT n b B).length), hrf ?_, (-1, so', of', nI (TT n b B).length, nI (BY b B).length), hcl ?_, rfl, RR_mk hF' hV' hI hu hw ht hr hs⟩
        · rw [if_neg hm1, if_neg q1, if_pos rfl]
        · rw [if_neg hm1]
          by_cases h0 : p2 < 0
          · rw [if_pos h0]
          · rw [if_neg h0, if_pos (q2.resolve_left h0)]
  · refine ⟨(-1, z_moveMany, z_moves, z_hands, z_asked, z_types, z_typeCounts, z_typeMany), ?_, (-1, i_sort, i_howOften, i_sorts, i_moves), ?_, rfl, RR_mk hF' hV' hI hu hw ht hr hs⟩
    · unfold f_X10_index
      rw [r_by, ob_some, if_neg hby, if_pos rfl]
    · unfold f_X9_index
      rw [e_flag, ob_some, if_neg hby, if_pos rfl]
theorem op_part : OP_part RR := by
  intro x_hasImage f_places f_kinds f_weights f_howManyGenerators f_generators f_racks f_howManySeen f_seenFirst f_seenSecond f_seenIs f_seenPlaces f_howManyEvents f_eventWhat f_eventNumber g_places g_kinds g_weights g_howManyGenerators g_generators g_racks g_howManySeen g_seenFirst g_seenSecond g_seenIs g_seenPlaces g_howManyEvents g_eventWhat g_eventNumber v_keys v_asFound v_found v_turns v_places p_keys p_asFound p_found p_turns p_places i_sort i_howOften i_sorts i_moves n_u u_leasts u_howMany u_known n_w w_leasts w_howMany w_known t_signs t_length t_whole t_begins t_ends r_sorts r_numbers r_length sr ln it z_thrown z_s z_kept z_isKept z_moveMany z_moves z_hands z_troubles z_troubleSorts z_troubleNumbers z_asked z_paint z_leasts z_isSeen z_classMany z_types z_typeCounts z_typeMany z_text z_signs z_at z_lacks z_clauses z_begun z_letters z_firsts z_seconds z_aside z_sorts z_sizes z_items hR p1 p2 p3
  obtain ⟨n, k, m, gk, w, B, hF, hV, hI, hu, hw, ht, hr, hs⟩ := hR
  have hF' := hF
  obtain ⟨hb, ⟨rfl, rfl, rfl⟩, ⟨hz0, hz1, hz2⟩, hw4, hG, hK, hS, hE⟩ := hF
  have hV' := hV
  obtain ⟨hB, ⟨hKy, hAs, rfl, rfl⟩, rfl⟩ := hV
  have hm4 := hb.2.2.2.2
  have h2n := hb.1
  have h6 := hb.2.1
  have hk1 := hb.2.2.1
  have hk4 := hb.2.2.2.1
  have hKS := KS_of hb hG hB
  have hl := hKS.2
  have hL := srt_len B
  have hpos : 0 < B.length := List.length_pos_of_mem hKS.1.2.2.1
  obtain ⟨mv', hd', hM, e1⟩ := r_moves_ (mv := z_moves) (hd := z_hands) (mm := z_moveMany) hb.2.1 hm4 (ZG_of hz0 hz2 hG) (fun i hi => (hG i hi).1) hB
  have ein3 : f_X10_in (p3.toInt64) 0 1 = some (if (0 : Int32) ≤ p3 ∧ p3 ≤ 1 then 1 else 0) := r_inN (by decide) (by decide)
  by_cases hby : (0 : Int32) ≤ p1 ∧ p1 ≤ 1
  · obtain ⟨b, -, hb1, rfl⟩ := in_nat (l := 0) (h := 1) (by decide) (by decide) hby
    obtain ⟨so', of', ss', hIx, e2⟩ := e_fill (so := i_sort) (of_ := i_howOften) (ss := i_sorts) (mo := i_moves) h2n h6 hb1 hKS hKy
    obtain ⟨mv2, hd2, as2, ty2, tc2, tm2, hM2, hIr, e3⟩ := r_indexes (mv := z_moves) (hd := z_hands) (mm := z_moveMany) (as := z_asked) (ty := z_types) (tc := z_typeCounts) (tm := z_typeMany) h2n h6 hm4 (ZG_of hz0 hz2 hG) (fun i hi => (hG i hi).1) hB hb1 hKS
    obtain ⟨hT0, hT11⟩ := TT_len hb1 hKS.1 hIx
    have hf := fsts_len (TT n b B)
    have hsn := snds_len (TT n b B)
    obtain ⟨hA1, hA2, rfl, -, -⟩ := hIx
    obtain ⟨hR1, hR2, rfl, -, -⟩ := hIr
    have hpb : 0 < (BY b B).length := List.length_pos_of_mem (BY_Gp (b := b) hKS.1).2.2.1
    have hlb := BY_len (b := b) (B := B)
    have hcl : ∀ {r : Option (Int64 × (Nat → Int32) × (Nat → Int32) × Int32 × Int32)}, (if p2 < 0 then (some ((-9223372036854775808), so', of', nI (TT n b B).length, nI (BY b B).length)) else (if nI (TT n b B).length ≤ p2 then (some ((-9223372036854775808), so', of', nI (TT n b B).length, nI (BY b B).length)) else ((f_X9_isFlag p3).bind fun t6 => if t6 = 0 then (some ((-9223372036854775808), so', of', nI (TT n b B).length, nI (BY b B).length)) else ((q_rd of' 11 p2).bind fun t8 => (f_X9_commonDivisor t8 (nI (BY b B).length)).bind fun t9 => if p3 = 0 then ((q_rd of' 11 p2).bind fun t13 => if t9 ≤ 0 then (some ((t13 : Int32).toInt64, so', of', nI (TT n b B).length, nI (BY b B).length)) else ((q_dv t13 t9).bind fun t15 => some ((t15 : Int32).toInt64, so', of', nI (TT n b B).length, nI (BY b B).length))) else (if t9 ≤ 0 then (some ((nI (BY b B).length : Int32).toInt64, so', of', nI (TT n b B).length, nI (BY b B).length)) else ((q_dv (nI (BY b B).length) t9).bind fun t12 => some ((t12 : Int32).toInt64, so', of', nI (TT n b B).length, nI (BY b B).length))))))) = r → f_X9_part (nI b) p2 p3 v_keys (nI B.length) (nI (B.countP (fun K => decide (K % 2 = 0)))) (nI n) i_sort i_howOften i_sorts i_moves = r := by
      intro r h
      unfold f_X9_part
      rw [e_flag, ob_some, if_pos hby, if_neg (show ¬ (1 : Int32) = 0 by decide), e2, ob_some]
      exact h
    have ein2 : f_X10_in (p2.toInt64) 0 ((nI (TT n b B).length - 1 : Int32).toInt64) = some (if (0 : Int32) ≤ p2 ∧ p2 ≤ nI (TT n b B).length - 1 then 1 else 0) := r_inN (l := 0) (by decide) rfl
    rw [nI_dec hT0] at ein2
    by_cases h3 : (0 : Int32) ≤ p3 ∧ p3 ≤ 1
    · have hrf : ∀ {r : Option (Int64 × Int32 × (Nat → Int32) × (Nat → Int32) × (Nat → Int32) × (Nat → Int32) × (Nat → Int32) × Int32)}, (if (if (0 : Int32) ≤ p2 ∧ p2 ≤ nI ((TT n b B).length - 1) then (1 : Int32) else 0) = 0 then (some ((-9223372036854775808), nI B.length, mv2, hd2, as2, ty2, tc2, nI (TT n b B).length)) else (if p3 = 0 then ((q_rd tc2 120 p2).bind fun t13 => (q_rd tc2 120 p2).bind fun t14 => (f_X10_common t14 (nI (BY b B).length)).bind fun t15 => (q_dv t13 t15).bind fun t16 => some ((t16 : Int32).toInt64, nI B.length, mv2, hd2, as2, ty2, tc2, nI (TT n b B).length)) else ((q_rd tc2 120 p2).bind fun t10 => (f_X10_common t10 (nI (BY b B).length)).bind fun t11 => (q_dv (nI (BY b B).length) t11).bind fun t12 => some ((t12 : Int32).toInt64, nI B.length, mv2, hd2, as2, ty2, tc2, nI (TT n b B).length)))) = r → f_X10_part (nI b) p2 p3 z_s z_moveMany z_moves z_hands z_asked z_types z_typeCounts z_typeMany = r := by
        intro r h
        unfold f_X10_part
        rw [r_by, ob_some, if_pos hby, if_neg (show ¬ (1 : Int32) = 0 by decide), ein3, ob_some, if_pos h3, if_neg (show ¬ (1 : Int32) = 0 by decide), e3, ob_some]
        show (f_X10_in (p2.toInt64) 0 ((nI (TT n b B).length - 1 : Int32).toInt64)).bind _ = r
        rw [nI_dec hT0, ein2, ob_some, show f_X10_manyOf (nI b) (nI B.length, mv2, hd2, as2, ty2, tc2, nI (TT n b B).length).1 (nI B.length, mv2, hd2, as2, ty2, tc2, nI (TT n b B).length).2.2.1 = _ from r_manyOf hb1 hl hM2, ob_some]
        exact h
      rcases row_dec p2 hT0 (by omega) with ⟨v, hv, rfl⟩ | ⟨q1, q2⟩
      · have hin := row_in hv (by omega)
        have hc := cnt_le (n := n) (B := B) hb1 ((snds (TT n b B)).getD v 0) (getD_mem (by omega))
        have hg : 0 < Nat.gcd ((snds (TT n b B)).getD v 0) (BY b B).length := Nat.gcd_pos_of_pos_right _ hpb
        have hg2 : Nat.gcd ((snds (TT n b B)).getD v 0) (BY b B).length ≤ (BY b B).length := Nat.le_of_dvd hpb (Nat.gcd_dvd_right _ _)
        by_cases h30 : p3 = 0
        · refine ⟨((nI ((snds (TT n b B)).getD v 0 / Nat.gcd ((snds (TT n b B)).getD v 0) (BY b B).length)).toInt64, nI B.length, mv2, hd2, as2, ty2, tc2, nI (TT n b B).length), hrf ?_, ((nI ((snds (TT n b B)).getD v 0 / Nat.gcd ((snds (TT n b B)).getD v 0) (BY b B).length)).toInt64, so', of', nI (TT n b B).length, nI (BY b B).length), hcl ?_, rfl, RR_mk hF' hV' hI hu hw ht hr hs⟩
          · rw [if_pos hin, if_neg (show ¬ (1 : Int32) = 0 by decide), if_pos h30, qe_rd _ (by omega) (by decide), ob_some, ob_some, hR2 v (by omega), r_common (by omega) (by omega), ob_some, qe_dv (by omega) (by omega) hg, ob_some]
          · rw [if_neg (nI_pos (by omega)), if_neg (nI_ge hv (by omega)), e_flag, ob_some, if_pos h3, if_neg (show ¬ (1 : Int32) = 0 by decide), qe_rd _ (by omega) (by decide), ob_some, hA2 v (by omega), e_gcd (by omega) (by omega), ob_some, if_pos h30, ob_some, if_neg (nI_nle hg (by omega)), qe_dv (by omega) (by omega) hg, ob_some]
        · refine ⟨((nI ((BY b B).length / Nat.gcd ((snds (TT n b B)).getD v 0) (BY b B).length)).toInt64, nI B.length, mv2, hd2, as2, ty2, tc2, nI (TT n b B).length), hrf ?_, ((nI ((BY b B).length / Nat.gcd ((snds (TT n b B)).getD v 0) (BY b B).length)).toInt64, so', of', nI (TT n b B).length, nI (BY b B).length), hcl ?_, rfl, RR_mk hF' hV' hI hu hw ht hr hs⟩
          · rw [if_pos hin, if_neg (show ¬ (1 : Int32) = 0 by decide), if_neg h30, qe_rd _ (by omega) (by decide), ob_some, hR2 v (by omega), r_common (by omega) (by omega), ob_some, qe_dv (by omega) (by omega) hg, ob_some]
          · rw [if_neg (nI_pos (by omega)), if_neg (nI_ge hv (by omega)), e_flag, ob_some, if_pos h3, if_neg (show ¬ (1 : Int32) = 0 by decide), qe_rd _ (by omega) (by decide), ob_some, hA2 v (by omega), e_gcd (by omega) (by omega), ob_some, if_neg h30, if_neg (nI_nle hg (by omega)), qe_dv (by omega) (by omega) hg, ob_some]
      · refine ⟨(-9223372036854775808, nI B.length, mv2, hd2, as2, ty2, tc2, nI (TT n b B).length), hrf ?_, (-9223372036854775808, so', of', nI (TT n b B).length, nI (BY b B).length), hcl ?_, rfl, RR_mk hF' hV' hI hu hw ht hr hs⟩
        · rw [if_neg q1, if_pos rfl]
        · by_cases h0 : p2 < 0
          · rw [if_pos h0]
          · rw [if_neg h0, if_pos (q2.resolve_left h0)]
    · refine ⟨(-9223372036854775808, z_moveMany, z_moves, z_hands, z_asked, z_types, z_typeCounts, z_typeMany), ?_, (-9223372036854775808, so', of', nI (TT n b B).length, nI (BY b B).length), hcl ?_, rfl, RR_mk hF' hV' hI hu hw ht hr hs⟩
      · unfold f_X10_part
        rw [r_by, ob_some, if_pos hby, if_neg (show ¬ (1 : Int32) = 0 by decide), ein3, ob_some, if_neg h3, if_pos rfl]
      · rw [e_flag, ob_some, if_neg h3, if_pos rfl]
        split
        · rfl
        · split <;> rfl
  · refine ⟨(-9223372036854775808, z_moveMany, z_moves, z_hands, z_asked, z_types, z_typeCounts, z_typeMany), ?_, (-9223372036854775808, i_sort, i_howOften, i_sorts, i_moves), ?_, rfl, RR_mk hF' hV' hI hu hw ht hr hs⟩
    · unfold f_X10_part
      rw [r_by, ob_some, if_neg hby, if_pos rfl]
    · unfold f_X9_part
      rw [e_flag, ob_some, if_neg hby, if_pos rfl]
