-- ===== the steps: kindOf, heavy, use, told =====
theorem LQ_Pt {n k i P : Nat} {B : List Nat} (hn : n ≤ 6) (hk1 : 1 ≤ k) (hk : k ≤ 4) (h : P ∈ LQ n k B i) : Pt n k P := by
  unfold LQ at h
  obtain ⟨j, -, rfl⟩ := List.mem_map.mp (List.mem_filter.mp h).1
  exact pt_Pt hn hk1 (by omega)
theorem wt_le {n P : Nat} {w : Nat → Nat} (hw : ∀ j, j < 4 → w j ≤ 9) (hd : ∀ p, p < n → dg P p < 4) : wt n w P ≤ n * 9 := fb_sm_bound (fun p hp => hw _ (hd p hp))
theorem usn_le (d : Nat) : usn d ≤ 1000 := by unfold usn; split <;> decide
theorem use_le (n P : Nat) : use_ n P ≤ n * 1000 := fb_sm_bound (fun p _ => usn_le _)
theorem e_classesBy_0 {n k : Nat} {B : List Nat} {keys ul : Nat → Int32} {nu : Nat} {hm kn : Int32} (h2 : 2 ≤ n) (hn : n ≤ 6) (hk1 : 1 ≤ k) (hk : k ≤ 4) (hB : KS B n) (hA : AK keys (srt B)) (hC : CU n k 0 B nu ul hm kn) : ∃ nu' ul', f_X9_classesBy_0 (nI n) (nI k) keys (nI B.length) (nI n) nu ul hm kn = some (nu', ul', nI (LQ n k (BY 0 B) (k ^ n)).length, 1) ∧ nu' ≤ 4096 ∧ AK ul' (LQ n k (BY 0 B) (k ^ n)) ∧ (LQ n k (BY 0 B) (k ^ n)).length ≤ nu' := by
  unfold f_X9_classesBy_0
  obtain ⟨h1, rfl | ⟨rfl, h3, rfl, h5⟩⟩ := hC
  · obtain ⟨nc', ul', g1, g2, g3, e⟩ := e_find (b := 0) (nc := nu) (ul := ul) (hm := hm) (kn := 0) h2 hn hk1 hk (by omega) hB hA h1
    rw [if_pos rfl, e_paintings hn, ob_some, show f_X1_find 0 (nI k) (nI (k ^ n)) nu ul hm 0 keys (nI B.length) (nI n) = _ from e, ob_some]
    exact ⟨nc', ul', rfl, g1, g2, g3⟩
  · rw [if_neg (by decide)]
    exact ⟨nu, ul, rfl, h1, h3, h5⟩
theorem e_heavy_0_L {n k x nu : Nat} {w : Nat → Nat} {fw ul : Nat → Int32} {L : List Nat} (hn : n ≤ 6) (hk : k ≤ 4) (hx : x < 2 ^ 31) (hw9 : ∀ j, j < 4 → w j ≤ 9) (hw : ∀ j, j < 4 → fw j = nI (w j)) (hL : ∀ P ∈ L, Pt n k P) (hA : AK ul L) (hnu : L.length ≤ nu) (hnu2 : nu ≤ 4096) (K : Int32 → Int32 → Option (Int32 × Nat × (Nat → Int32) × Int32 × Int32)) : ∀ d i fu c, i + d = L.length → d < fu → f_X9_heavy_0_L34 (nI x) (nI n) fw nu ul (nI L.length) K fu (nI c) (nI i) = K (nI (c + (L.drop i).countP (fun P => decide (wt n w P = x)))) (nI L.length)
  | d, i, 0, _, _, h => by omega
  | 0, i, fu + 1, c, hi, _ => by
    rw [f_X9_heavy_0_L34, if_pos (nI_le (by omega) (by omega)), List.drop_eq_nil_of_le (by omega), show i = L.length by omega]
    rfl
  | d + 1, i, fu + 1, c, hi, hfu => by
    have hiL : i < L.length := by omega
    have hP := hL _ (getD_mem hiL)
    have hwl := wt_le (n := n) (P := L.getD i 0) hw9 (fun p hp => by have := hP.2.1 p hp; omega)
    rw [f_X9_heavy_0_L34, if_neg (nI_ge (by omega) (by omega)), qe_rd _ (by omega) (by omega), ob_some, hA i hiL, e_weightOf hn hk hP hw, ob_some, nI_1, nI_1, drop_cons hiL, List.countP_cons]
    by_cases h : wt n w (L.getD i 0) = x
    · rw [if_pos (by rw [h]), e_heavy_0_L hn hk hx hw9 hw hL hA hnu hnu2 K d (i + 1) fu (c + 1) (by omega) (by omega), if_pos (decide_eq_true h)]
      congr 2
      omega
    · rw [if_neg (fun q => h (nI_inj (by omega) hx q)), e_heavy_0_L hn hk hx hw9 hw hL hA hnu hnu2 K d (i + 1) fu c (by omega) (by omega), if_neg (by rw [decide_eq_true_eq]; exact h)]
      rfl
theorem e_use_0_L {n k x nu : Nat} {ul : Nat → Int32} {L : List Nat} (hn : n ≤ 6) (hk : k ≤ 4) (hx : x < 2 ^ 31) (hL : ∀ P ∈ L, Pt n k P) (hA : AK ul L) (hnu : L.length ≤ nu) (hnu2 : nu ≤ 4096) (K : Int32 → Int32 → Option (Int32 × Nat × (Nat → Int32) × Int32 × Int32)) : ∀ d i fu c, i + d = L.length → d < fu → f_X9_use_0_L35 (nI x) (nI n) nu ul (nI L.length) K fu (nI c) (nI i) = K (nI (c + (L.drop i).countP (fun P => decide (use_ n P = x)))) (nI L.length)
  | d, i, 0, _, _, h => by omega
  | 0, i, fu + 1, c, hi, _ => by
    rw [f_X9_use_0_L35, if_pos (nI_le (by omega) (by omega)), List.drop_eq_nil_of_le (by omega), show i = L.length by omega]
    rfl
  | d + 1, i, fu + 1, c, hi, hfu => by
    have hiL : i < L.length := by omega
    have hP := hL _ (getD_mem hiL)
    have hwl := use_le n (L.getD i 0)
    rw [f_X9_use_0_L35, if_neg (nI_ge (by omega) (by omega)), qe_rd _ (by omega) (by omega), ob_some, hA i hiL, e_howOftenEach hn hk hP, ob_some, nI_1, nI_1, drop_cons hiL, List.countP_cons]
    by_cases h : use_ n (L.getD i 0) = x
    · rw [if_pos (by rw [h]), e_use_0_L hn hk hx hL hA hnu hnu2 K d (i + 1) fu (c + 1) (by omega) (by omega), if_pos (decide_eq_true h)]
      congr 2
      omega
    · rw [if_neg (fun q => h (nI_inj (by omega) hx q)), e_use_0_L hn hk hx hL hA hnu hnu2 K d (i + 1) fu c (by omega) (by omega), if_neg (by rw [decide_eq_true_eq]; exact h)]
      rfl
theorem e_classesBy_1 {n k : Nat} {B : List Nat} {keys ul : Nat → Int32} {nu : Nat} {hm kn : Int32} (h2 : 2 ≤ n) (hn : n ≤ 6) (hk1 : 1 ≤ k) (hk : k ≤ 4) (hB : KS B n) (hA : AK keys (srt B)) (hC : CU n k 1 B nu ul hm kn) : ∃ nu' ul', f_X9_classesBy_1 (nI n) (nI k) keys (nI B.length) (nI n) nu ul hm kn = some (nu', ul', nI (LQ n k (BY 1 B) (k ^ n)).length, 1) ∧ nu' ≤ 4096 ∧ AK ul' (LQ n k (BY 1 B) (k ^ n)) ∧ (LQ n k (BY 1 B) (k ^ n)).length ≤ nu' := by
  unfold f_X9_classesBy_1
  obtain ⟨h1, rfl | ⟨rfl, h3, rfl, h5⟩⟩ := hC
  · obtain ⟨nc', ul', g1, g2, g3, e⟩ := e_find (b := 1) (nc := nu) (ul := ul) (hm := hm) (kn := 0) h2 hn hk1 hk (by omega) hB hA h1
    rw [if_pos rfl, e_paintings hn, ob_some, show f_X1_find 1 (nI k) (nI (k ^ n)) nu ul hm 0 keys (nI B.length) (nI n) = _ from e, ob_some]
    exact ⟨nc', ul', rfl, g1, g2, g3⟩
  · rw [if_neg (by decide)]
    exact ⟨nu, ul, rfl, h1, h3, h5⟩
theorem e_heavy_1_L {n k x nu : Nat} {w : Nat → Nat} {fw ul : Nat → Int32} {L : List Nat} (hn : n ≤ 6) (hk : k ≤ 4) (hx : x < 2 ^ 31) (hw9 : ∀ j, j < 4 → w j ≤ 9) (hw : ∀ j, j < 4 → fw j = nI (w j)) (hL : ∀ P ∈ L, Pt n k P) (hA : AK ul L) (hnu : L.length ≤ nu) (hnu2 : nu ≤ 4096) (K : Int32 → Int32 → Option (Int32 × Nat × (Nat → Int32) × Int32 × Int32)) : ∀ d i fu c, i + d = L.length → d < fu → f_X9_heavy_1_L34 (nI x) (nI n) fw nu ul (nI L.length) K fu (nI c) (nI i) = K (nI (c + (L.drop i).countP (fun P => decide (wt n w P = x)))) (nI L.length)
  | d, i, 0, _, _, h => by omega
  | 0, i, fu + 1, c, hi, _ => by
    rw [f_X9_heavy_1_L34, if_pos (nI_le (by omega) (by omega)), List.drop_eq_nil_of_le (by omega), show i = L.length by omega]
    rfl
  | d + 1, i, fu + 1, c, hi, hfu => by
    have hiL : i < L.length := by omega
    have hP := hL _ (getD_mem hiL)
    have hwl := wt_le (n := n) (P := L.getD i 0) hw9 (fun p hp => by have := hP.2.1 p hp; omega)
    rw [f_X9_heavy_1_L34, if_neg (nI_ge (by omega) (by omega)), qe_rd _ (by omega) (by omega), ob_some, hA i hiL, e_weightOf hn hk hP hw, ob_some, nI_1, nI_1, drop_cons hiL, List.countP_cons]
    by_cases h : wt n w (L.getD i 0) = x
    · rw [if_pos (by rw [h]), e_heavy_1_L hn hk hx hw9 hw hL hA hnu hnu2 K d (i + 1) fu (c + 1) (by omega) (by omega), if_pos (decide_eq_true h)]
      congr 2
      omega
    · rw [if_neg (fun q => h (nI_inj (by omega) hx q)), e_heavy_1_L hn hk hx hw9 hw hL hA hnu hnu2 K d (i + 1) fu c (by omega) (by omega), if_neg (by rw [decide_eq_true_eq]; exact h)]
      rfl
theorem e_use_1_L {n k x nu : Nat} {ul : Nat → Int32} {L : List Nat} (hn : n ≤ 6) (hk : k ≤ 4) (hx : x < 2 ^ 31) (hL : ∀ P ∈ L, Pt n k P) (hA : AK ul L) (hnu : L.length ≤ nu) (hnu2 : nu ≤ 4096) (K : Int32 → Int32 → Option (Int32 × Nat × (Nat → Int32) × Int32 × Int32)) : ∀ d i fu c, i + d = L.length → d < fu → f_X9_use_1_L35 (nI x) (nI n) nu ul (nI L.length) K fu (nI c) (nI i) = K (nI (c + (L.drop i).countP (fun P => decide (use_ n P = x)))) (nI L.length)
  | d, i, 0, _, _, h => by omega
  | 0, i, fu + 1, c, hi, _ => by
    rw [f_X9_use_1_L35, if_pos (nI_le (by omega) (by omega)), List.drop_eq_nil_of_le (by omega), show i = L.length by omega]
    rfl
  | d + 1, i, fu + 1, c, hi, hfu => by
    have hiL : i < L.length := by omega
    have hP := hL _ (getD_mem hiL)
    have hwl := use_le n (L.getD i 0)
    rw [f_X9_use_1_L35, if_neg (nI_ge (by omega) (by omega)), qe_rd _ (by omega) (by omega), ob_some, hA i hiL, e_howOftenEach hn hk hP, ob_some, nI_1, nI_1, drop_cons hiL, List.countP_cons]
    by_cases h : use_ n (L.getD i 0) = x
    · rw [if_pos (by rw [h]), e_use_1_L hn hk hx hL hA hnu hnu2 K d (i + 1) fu (c + 1) (by omega) (by omega), if_pos (decide_eq_true h)]
      congr 2
      omega
    · rw [if_neg (fun q => h (nI_inj (by omega) hx q)), e_use_1_L hn hk hx hL hA hnu hnu2 K d (i + 1) fu c (by omega) (by omega), if_neg (by rw [decide_eq_true_eq]; exact h)]
      rfl
theorem r_heavy2_L {z le : Nat → Int32} {n k x : Nat} {w : Nat → Nat} {L : List Nat} (hn : n ≤ 6) (hk1 : 1 ≤ k) (hk : k ≤ 4) (hz : z 0 = nI n) (hz1 : z 1 = nI k) (hx : x < 2 ^ 31) (hw9 : ∀ j, j < 4 → w j ≤ 9) (hw : ∀ j, j < 4 → z (5 + j) = nI (w j)) (hL : ∀ P ∈ L, Pt n k P) (hA : AKi le n k L) (hl : L.length ≤ 4096) (K : Int32 → Int32 → (Nat → Int32) → Option (Int32 × Int32 × (Nat → Int32) × (Nat → Int32) × (Nat → Int32) × (Nat → Int32) × (Nat → Int32) × Int32)) : ∀ d i fu c pa, i + d = L.length → d < fu → ∃ pa', f_X10_heavy_L34 (nI x) z le (nI L.length) K fu (nI c) (nI i) pa = K (nI (c + (L.drop i).countP (fun P => decide (wt n w P = x)))) (nI L.length) pa'
  | d, i, 0, _, _, _, h => by omega
  | 0, i, fu + 1, c, pa, hi, _ => by
    rw [f_X10_heavy_L34, if_pos (nI_le (by omega) (by omega)), List.drop_eq_nil_of_le (by omega), show i = L.length by omega]
    exact ⟨pa, rfl⟩
  | d + 1, i, fu + 1, c, pa, hi, hfu => by
    have hiL : i < L.length := by omega
    have hP := hL _ (getD_mem hiL)
    have hwl := wt_le (n := n) (P := L.getD i 0) hw9 (fun p hp => by have := hP.2.1 p hp; omega)
    obtain ⟨pa1, -, e⟩ := r_heavyOf (pa := pa) hn hk1 hk hz hz1 hw hP
    rw [f_X10_heavy_L34, if_neg (nI_ge (by omega) (by omega)), qe_rd _ (by omega) (by decide), ob_some, hA i hiL, e, ob_some, nI_1, nI_1, show ∀ v : Int32, v + 0 = v from Int32.add_zero, drop_cons hiL, List.countP_cons]
    by_cases h : wt n w (L.getD i 0) = x
    · obtain ⟨pa', e2⟩ := r_heavy2_L hn hk1 hk hz hz1 hx hw9 hw hL hA hl K d (i + 1) fu (c + 1) pa1 (by omega) (by omega)
      refine ⟨pa', ?_⟩
      rw [if_pos (by rw [h]), e2, if_pos (decide_eq_true h)]
      congr 2
      omega
    · obtain ⟨pa', e2⟩ := r_heavy2_L hn hk1 hk hz hz1 hx hw9 hw hL hA hl K d (i + 1) fu c pa1 (by omega) (by omega)
      refine ⟨pa', ?_⟩
      rw [if_neg (fun q => h (nI_inj (by omega) hx q)), e2, if_neg (by rw [decide_eq_true_eq]; exact h)]
      rfl
theorem r_use2_L {z le : Nat → Int32} {n k x : Nat} {L : List Nat} (hn : n ≤ 6) (hk1 : 1 ≤ k) (hk : k ≤ 4) (hz : z 0 = nI n) (hz1 : z 1 = nI k) (hx : x < 2 ^ 31) (hL : ∀ P ∈ L, Pt n k P) (hA : AKi le n k L) (hl : L.length ≤ 4096) (K : Int32 → Int32 → (Nat → Int32) → Option (Int32 × Int32 × (Nat → Int32) × (Nat → Int32) × (Nat → Int32) × (Nat → Int32) × (Nat → Int32) × Int32)) : ∀ d i fu c pa, i + d = L.length → d < fu → ∃ pa', f_X10_use_L34 (nI x) z le (nI L.length) K fu (nI c) (nI i) pa = K (nI (c + (L.drop i).countP (fun P => decide (use_ n P = x)))) (nI L.length) pa'
  | d, i, 0, _, _, _, h => by omega
  | 0, i, fu + 1, c, pa, hi, _ => by
    rw [f_X10_use_L34, if_pos (nI_le (by omega) (by omega)), List.drop_eq_nil_of_le (by omega), show i = L.length by omega]
    exact ⟨pa, rfl⟩
  | d + 1, i, fu + 1, c, pa, hi, hfu => by
    have hiL : i < L.length := by omega
    have hP := hL _ (getD_mem hiL)
    have hwl := use_le n (L.getD i 0)
    obtain ⟨pa1, e⟩ := r_useOf (pa := pa) hn hk1 hk hz hz1 hP
    rw [f_X10_use_L34, if_neg (nI_ge (by omega) (by omega)), qe_rd _ (by omega) (by decide), ob_some, hA i hiL, e, ob_some, nI_1, nI_1, show ∀ v : Int32, v + 0 = v from Int32.add_zero, drop_cons hiL, List.countP_cons]
    by_cases h : use_ n (L.getD i 0) = x
    · obtain ⟨pa', e2⟩ := r_use2_L hn hk1 hk hz hz1 hx hL hA hl K d (i + 1) fu (c + 1) pa1 (by omega) (by omega)
      refine ⟨pa', ?_⟩
      rw [if_pos (by rw [h]), e2, if_pos (decide_eq_true h)]
      congr 2
      omega
    · obtain ⟨pa', e2⟩ := r_use2_L hn hk1 hk hz hz1 hx hL hA hl K d (i + 1) fu c pa1 (by omega) (by omega)
      refine ⟨pa', ?_⟩
      rw [if_neg (fun q => h (nI_inj (by omega) hx q)), e2, if_neg (by rw [decide_eq_true_eq]; exact h)]
      rfl
theorem op_heavy : OP_heavy RR := by
  intro x_hasImage f_places f_kinds f_weights f_howManyGenerators f_generators f_racks f_howManySeen f_seenFirst f_seenSecond f_seenIs f_seenPlaces f_howManyEvents f_eventWhat f_eventNumber g_places g_kinds g_weights g_howManyGenerators g_generators g_racks g_howManySeen g_seenFirst g_seenSecond g_seenIs g_seenPlaces g_howManyEvents g_eventWhat g_eventNumber v_keys v_asFound v_found v_turns v_places p_keys p_asFound p_found p_turns p_places i_sort i_howOften i_sorts i_moves n_u u_leasts u_howMany u_known n_w w_leasts w_howMany w_known t_signs t_length t_whole t_begins t_ends r_sorts r_numbers r_length sr ln it z_thrown z_s z_kept z_isKept z_moveMany z_moves z_hands z_troubles z_troubleSorts z_troubleNumbers z_asked z_paint z_leasts z_isSeen z_classMany z_types z_typeCounts z_typeMany z_text z_signs z_at z_lacks z_clauses z_begun z_letters z_firsts z_seconds z_aside z_sorts z_sizes z_items hR p1 p2
  obtain ⟨n, k, m, gk, w, B, hF, hV, hI, hu, hw, ht, hr, hs⟩ := hR
  have hF' := hF
  obtain ⟨hb, ⟨rfl, rfl, rfl⟩, ⟨hz0, hz1, hz2⟩, hw4, hG, hK, hS, hE⟩ := hF
  have hV' := hV
  obtain ⟨hB, ⟨hKy, hAs, rfl, rfl⟩, rfl⟩ := hV
  have hm4 := hb.2.2.2.2
  have h2n := hb.1
  have h6 := hb.2.1
  have hk1 := hb.2.2.1
  have hk4 := hb.2.2.2.1
  have hKS := KS_of hb hG hB
  have hl := hKS.2
  have hL := srt_len B
  have hpos : 0 < B.length := List.length_pos_of_mem hKS.1.2.2.1
  obtain ⟨mv', hd', hM, e1⟩ := r_moves_ (mv := z_moves) (hd := z_hands) (mm := z_moveMany) hb.2.1 hm4 (ZG_of hz0 hz2 hG) (fun i hi => (hG i hi).1) hB
  have ein : f_X10_in (p2.toInt64) 0 99 = some (if (0 : Int32) ≤ p2 ∧ p2 ≤ 99 then 1 else 0) := r_inN (by decide) (by decide)
  have h4 := pow_4096 h6 hk4
  by_cases hby : (0 : Int32) ≤ p1 ∧ p1 ≤ 1
  · by_cases hin : (0 : Int32) ≤ p2 ∧ p2 ≤ 99
    · obtain ⟨x, -, hx, rfl⟩ := in_nat (l := 0) (h := 99) (by decide) (by decide) hin
      rcases flag_01 hby with rfl | rfl
      · have hLl := LQ_len n k (BY 0 B) (k ^ n)
        obtain ⟨mv2, hd2, pa2, le2, se2, -, hA2, e2⟩ := r_allClasses (mv := z_moves) (hd := z_hands) (mm := z_moveMany) (pa := z_paint) (le := z_leasts) (se := z_isSeen) (cm := z_classMany) (b := 0) h6 hk1 hk4 hm4 (ZG_of hz0 hz2 hG) hz1 (fun i hi => (hG i hi).1) hB (by omega) hKS
        obtain ⟨pa3, e3⟩ := r_heavy2_L (x := x) h6 hk1 hk4 hz0 hz1 (by omega) (fun j hj => (hw4 j hj).1) (fun j hj => (hw4 j hj).2.2) (fun P hP => LQ_Pt h6 hk1 hk4 hP) hA2 (by omega) (fun l3_6 _ z_paint_6 => some (l3_6, nI B.length, mv2, hd2, z_paint_6, le2, se2, nI (LQ n k (BY 0 B) (k ^ n)).length)) (LQ n k (BY 0 B) (k ^ n)).length 0 q_fu 0 pa2 (by omega) (fu_lt (by omega))
        obtain ⟨nu', ul', e4, g1, g2, g3⟩ := e_classesBy_0 h2n h6 hk1 hk4 hKS hKy hu
        have e5 := e_heavy_0_L (x := x) h6 hk4 (by omega) (fun j hj => (hw4 j hj).1) (fun j hj => (hw4 j hj).2.1) (fun P hP => LQ_Pt h6 hk1 hk4 hP) g2 g3 g1 (fun l4_6 _ => some (l4_6, nu', ul', nI (LQ n k (BY 0 B) (k ^ n)).length, (1 : Int32))) (LQ n k (BY 0 B) (k ^ n)).length 0 q_fu 0 (by omega) (fu_lt (by omega))
        refine ⟨(nI (0 + ((LQ n k (BY 0 B) (k ^ n)).drop 0).countP (fun P => decide (wt n w P = x))), nI B.length, mv2, hd2, pa3, le2, se2, nI (LQ n k (BY 0 B) (k ^ n)).length), ?_, Or.inl ⟨rfl, (nI (0 + ((LQ n k (BY 0 B) (k ^ n)).drop 0).countP (fun P => decide (wt n w P = x))), nu', ul', nI (LQ n k (BY 0 B) (k ^ n)).length, 1), ?_, rfl, RR_mk hF' hV' hI ⟨g1, Or.inr ⟨rfl, g2, rfl, g3⟩⟩ hw ht hr hs⟩⟩
        · unfold f_X10_heavy
          rw [r_by, ob_some, if_pos hby, if_neg (show ¬ (1 : Int32) = 0 by decide), ein, ob_some, if_pos hin, if_neg (show ¬ (1 : Int32) = 0 by decide), e2, ob_some]
          exact e3
        · unfold f_X9_heavy_0
          rw [show f_X9_isFlag 0 = some 1 from rfl, ob_some, if_neg (show ¬ (1 : Int32) = 0 by decide), if_neg (nlt_le.mpr hin.1), if_pos hin.2, e4, ob_some]
          exact e5
      · have hLl := LQ_len n k (BY 1 B) (k ^ n)
        obtain ⟨mv2, hd2, pa2, le2, se2, -, hA2, e2⟩ := r_allClasses (mv := z_moves) (hd := z_hands) (mm := z_moveMany) (pa := z_paint) (le := z_leasts) (se := z_isSeen) (cm := z_classMany) (b := 1) h6 hk1 hk4 hm4 (ZG_of hz0 hz2 hG) hz1 (fun i hi => (hG i hi).1) hB (by omega) hKS
        obtain ⟨pa3, e3⟩ := r_heavy2_L (x := x) h6 hk1 hk4 hz0 hz1 (by omega) (fun j hj => (hw4 j hj).1) (fun j hj => (hw4 j hj).2.2) (fun P hP => LQ_Pt h6 hk1 hk4 hP) hA2 (by omega) (fun l3_6 _ z_paint_6 => some (l3_6, nI B.length, mv2, hd2, z_paint_6, le2, se2, nI (LQ n k (BY 1 B) (k ^ n)).length)) (LQ n k (BY 1 B) (k ^ n)).length 0 q_fu 0 pa2 (by omega) (fu_lt (by omega))
        obtain ⟨nu', ul', e4, g1, g2, g3⟩ := e_classesBy_1 h2n h6 hk1 hk4 hKS hKy hw
        have e5 := e_heavy_1_L (x := x) h6 hk4 (by omega) (fun j hj => (hw4 j hj).1) (fun j hj => (hw4 j hj).2.1) (fun P hP => LQ_Pt h6 hk1 hk4 hP) g2 g3 g1 (fun l4_6 _ => some (l4_6, nu', ul', nI (LQ n k (BY 1 B) (k ^ n)).length, (1 : Int32))) (LQ n k (BY 1 B) (k ^ n)).length 0 q_fu 0 (by omega) (fu_lt (by omega))
        refine ⟨(nI (0 + ((LQ n k (BY 1 B) (k ^ n)).drop 0).countP (fun P => decide (wt n w P = x))), nI B.length, mv2, hd2, pa3, le2, se2, nI (LQ n k (BY 1 B) (k ^ n)).length), ?_, Or.inr (Or.inl ⟨rfl, (nI (0 + ((LQ n k (BY 1 B) (k ^ n)).drop 0).countP (fun P => decide (wt n w P = x))), nu', ul', nI (LQ n k (BY 1 B) (k ^ n)).length, 1), ?_, rfl, RR_mk hF' hV' hI hu ⟨g1, Or.inr ⟨rfl, g2, rfl, g3⟩⟩ ht hr hs⟩)⟩
        · unfold f_X10_heavy
          rw [r_by, ob_some, if_pos hby, if_neg (show ¬ (1 : Int32) = 0 by decide), ein, ob_some, if_pos hin, if_neg (show ¬ (1 : Int32) = 0 by decide), e2, ob_some]
          exact e3
        · unfold f_X9_heavy_1
          rw [show f_X9_isFlag 1 = some 1 from rfl, ob_some, if_neg (show ¬ (1 : Int32) = 0 by decide), if_neg (nlt_le.mpr hin.1), if_pos hin.2, e4, ob_some]
          exact e5
    · refine ⟨(-2, z_moveMany, z_moves, z_hands, z_paint, z_leasts, z_isSeen, z_classMany), ?_, Or.inr (Or.inr ⟨-2, ?_, rfl, RR_mk hF' hV' hI hu hw ht hr hs⟩)⟩
      · unfold f_X10_heavy
        rw [r_by, ob_some, if_pos hby, if_neg (show ¬ (1 : Int32) = 0 by decide), ein, ob_some, if_neg hin, if_pos rfl]
      · unfold f_X9_heavy_n
        rw [e_flag, ob_some, if_pos hby, if_neg (show ¬ (1 : Int32) = 0 by decide)]
        by_cases h1 : p2 < 0
        · rw [if_pos h1]
        · rw [if_neg h1, if_neg (fun q => hin ⟨nlt_le.mp h1, q⟩)]
  · refine ⟨(-1, z_moveMany, z_moves, z_hands, z_paint, z_leasts, z_isSeen, z_classMany), ?_, Or.inr (Or.inr ⟨-1, ?_, rfl, RR_mk hF' hV' hI hu hw ht hr hs⟩)⟩
    · unfold f_X10_heavy
      rw [r_by, ob_some, if_neg hby, if_pos rfl]
    · unfold f_X9_heavy_n
      rw [e_flag, ob_some, if_neg hby, if_pos rfl]
theorem op_use : OP_use RR := by
  intro x_hasImage f_places f_kinds f_weights f_howManyGenerators f_generators f_racks f_howManySeen f_seenFirst f_seenSecond f_seenIs f_seenPlaces f_howManyEvents f_eventWhat f_eventNumber g_places g_kinds g_weights g_howManyGenerators g_generators g_racks g_howManySeen g_seenFirst g_seenSecond g_seenIs g_seenPlaces g_howManyEvents g_eventWhat g_eventNumber v_keys v_asFound v_found v_turns v_places p_keys p_asFound p_found p_turns p_places i_sort i_howOften i_sorts i_moves n_u u_leasts u_howMany u_known n_w w_leasts w_howMany w_known t_signs t_length t_whole t_begins t_ends r_sorts r_numbers r_length sr ln it z_thrown z_s z_kept z_isKept z_moveMany z_moves z_hands z_troubles z_troubleSorts z_troubleNumbers z_asked z_paint z_leasts z_isSeen z_classMany z_types z_typeCounts z_typeMany z_text z_signs z_at z_lacks z_clauses z_begun z_letters z_firsts z_seconds z_aside z_sorts z_sizes z_items hR p1 p2
  obtain ⟨n, k, m, gk, w, B, hF, hV, hI, hu, hw, ht, hr, hs⟩ := hR
  have hF' := hF
  obtain ⟨hb, ⟨rfl, rfl, rfl⟩, ⟨hz0, hz1, hz2⟩, hw4, hG, hK, hS, hE⟩ := hF
  have hV' := hV
  obtain ⟨hB, ⟨hKy, hAs, rfl, rfl⟩, rfl⟩ := hV
  have hm4 := hb.2.2.2.2
  have h2n := hb.1
  have h6 := hb.2.1
  have hk1 := hb.2.2.1
  have hk4 := hb.2.2.2.1
  have hKS := KS_of hb hG hB
  have hl := hKS.2
  have hL := srt_len B
  have hpos : 0 < B.length := List.length_pos_of_mem hKS.1.2.2.1
  obtain ⟨mv', hd', hM, e1⟩ := r_moves_ (mv := z_moves) (hd := z_hands) (mm := z_moveMany) hb.2.1 hm4 (ZG_of hz0 hz2 hG) (fun i hi => (hG i hi).1) hB
  have ein : f_X10_in (p2.toInt64) 0 9999 = some (if (0 : Int32) ≤ p2 ∧ p2 ≤ 9999 then 1 else 0) := r_inN (by decide) (by decide)
  have h4 := pow_4096 h6 hk4
  by_cases hby : (0 : Int32) ≤ p1 ∧ p1 ≤ 1
  · by_cases hin : (0 : Int32) ≤ p2 ∧ p2 ≤ 9999
    · obtain ⟨x, -, hx, rfl⟩ := in_nat (l := 0) (h := 9999) (by decide) (by decide) hin
      rcases flag_01 hby with rfl | rfl
      · have hLl := LQ_len n k (BY 0 B) (k ^ n)
        obtain ⟨mv2, hd2, pa2, le2, se2, -, hA2, e2⟩ := r_allClasses (mv := z_moves) (hd := z_hands) (mm := z_moveMany) (pa := z_paint) (le := z_leasts) (se := z_isSeen) (cm := z_classMany) (b := 0) h6 hk1 hk4 hm4 (ZG_of hz0 hz2 hG) hz1 (fun i hi => (hG i hi).1) hB (by omega) hKS
        obtain ⟨pa3, e3⟩ := r_use2_L (x := x) h6 hk1 hk4 hz0 hz1 (by omega) (fun P hP => LQ_Pt h6 hk1 hk4 hP) hA2 (by omega) (fun l3_6 _ z_paint_6 => some (l3_6, nI B.length, mv2, hd2, z_paint_6, le2, se2, nI (LQ n k (BY 0 B) (k ^ n)).length)) (LQ n k (BY 0 B) (k ^ n)).length 0 q_fu 0 pa2 (by omega) (fu_lt (by omega))
        obtain ⟨nu', ul', e4, g1, g2, g3⟩ := e_classesBy_0 h2n h6 hk1 hk4 hKS hKy hu
        have e5 := e_use_0_L (x := x) h6 hk4 (by omega) (fun P hP => LQ_Pt h6 hk1 hk4 hP) g2 g3 g1 (fun l4_6 _ => some (l4_6, nu', ul', nI (LQ n k (BY 0 B) (k ^ n)).length, (1 : Int32))) (LQ n k (BY 0 B) (k ^ n)).length 0 q_fu 0 (by omega) (fu_lt (by omega))
        refine ⟨(nI (0 + ((LQ n k (BY 0 B) (k ^ n)).drop 0).countP (fun P => decide (use_ n P = x))), nI B.length, mv2, hd2, pa3, le2, se2, nI (LQ n k (BY 0 B) (k ^ n)).length), ?_, Or.inl ⟨rfl, (nI (0 + ((LQ n k (BY 0 B) (k ^ n)).drop 0).countP (fun P => decide (use_ n P = x))), nu', ul', nI (LQ n k (BY 0 B) (k ^ n)).length, 1), ?_, rfl, RR_mk hF' hV' hI ⟨g1, Or.inr ⟨rfl, g2, rfl, g3⟩⟩ hw ht hr hs⟩⟩
        · unfold f_X10_use
          rw [r_by, ob_some, if_pos hby, if_neg (show ¬ (1 : Int32) = 0 by decide), ein, ob_some, if_pos hin, if_neg (show ¬ (1 : Int32) = 0 by decide), e2, ob_some]
          exact e3
        · unfold f_X9_use_0
          rw [show f_X9_isFlag 0 = some 1 from rfl, ob_some, if_neg (show ¬ (1 : Int32) = 0 by decide), if_neg (nlt_le.mpr hin.1), if_pos hin.2, e4, ob_some]
          exact e5
      · have hLl := LQ_len n k (BY 1 B) (k ^ n)
        obtain ⟨mv2, hd2, pa2, le2, se2, -, hA2, e2⟩ := r_allClasses (mv := z_moves) (hd := z_hands) (mm := z_moveMany) (pa := z_paint) (le := z_leasts) (se := z_isSeen) (cm := z_classMany) (b := 1) h6 hk1 hk4 hm4 (ZG_of hz0 hz2 hG) hz1 (fun i hi => (hG i hi).1) hB (by omega) hKS
        obtain ⟨pa3, e3⟩ := r_use2_L (x := x) h6 hk1 hk4 hz0 hz1 (by omega) (fun P hP => LQ_Pt h6 hk1 hk4 hP) hA2 (by omega) (fun l3_6 _ z_paint_6 => some (l3_6, nI B.length, mv2, hd2, z_paint_6, le2, se2, nI (LQ n k (BY 1 B) (k ^ n)).length)) (LQ n k (BY 1 B) (k ^ n)).length 0 q_fu 0 pa2 (by omega) (fu_lt (by omega))
        obtain ⟨nu', ul', e4, g1, g2, g3⟩ := e_classesBy_1 h2n h6 hk1 hk4 hKS hKy hw
        have e5 := e_use_1_L (x := x) h6 hk4 (by omega) (fun P hP => LQ_Pt h6 hk1 hk4 hP) g2 g3 g1 (fun l4_6 _ => some (l4_6, nu', ul', nI (LQ n k (BY 1 B) (k ^ n)).length, (1 : Int32))) (LQ n k (BY 1 B) (k ^ n)).length 0 q_fu 0 (by omega) (fu_lt (by omega))
        refine ⟨(nI (0 + ((LQ n k (BY 1 B) (k ^ n)).drop 0).countP (fun P => decide (use_ n P = x))), nI B.length, mv2, hd2, pa3, le2, se2, nI (LQ n k (BY 1 B) (k ^ n)).length), ?_, Or.inr (Or.inl ⟨rfl, (nI (0 + ((LQ n k (BY 1 B) (k ^ n)).drop 0).countP (fun P => decide (use_ n P = x))), nu', ul', nI (LQ n k (BY 1 B) (k ^ n)).length, 1), ?_, rfl, RR_mk hF' hV' hI hu ⟨g1, Or.inr ⟨rfl, g2, rfl, g3⟩⟩ ht hr hs⟩)⟩
        · unfold f_X10_use
          rw [r_by, ob_some, if_pos hby, if_neg (show ¬ (1 : Int32) = 0 by decide), ein, ob_some, if_pos hin, if_neg (show ¬ (1 : Int32) = 0 by decide), e2, ob_some]
          exact e3
        · unfold f_X9_use_1
          rw [show f_X9_isFlag 1 = some 1 from rfl, ob_some, if_neg (show ¬ (1 : Int32) = 0 by decide), if_neg (nlt_le.mpr hin.1), if_pos hin.2, e4, ob_some]
          exact e5
    · refine ⟨(-2, z_moveMany, z_moves, z_hands, z_paint, z_leasts, z_isSeen, z_classMany), ?_, Or.inr (Or.inr ⟨-2, ?_, rfl, RR_mk hF' hV' hI hu hw ht hr hs⟩)⟩
      · unfold f_X10_use
        rw [r_by, ob_some, if_pos hby, if_neg (show ¬ (1 : Int32) = 0 by decide), ein, ob_some, if_neg hin, if_pos rfl]
      · unfold f_X9_use_n
        rw [e_flag, ob_some, if_pos hby, if_neg (show ¬ (1 : Int32) = 0 by decide)]
        by_cases h1 : p2 < 0
        · rw [if_pos h1]
        · rw [if_neg h1, if_neg (fun q => hin ⟨nlt_le.mp h1, q⟩)]
  · refine ⟨(-1, z_moveMany, z_moves, z_hands, z_paint, z_leasts, z_isSeen, z_classMany), ?_, Or.inr (Or.inr ⟨-1, ?_, rfl, RR_mk hF' hV' hI hu hw ht hr hs⟩)⟩
    · unfold f_X10_use
      rw [r_by, ob_some, if_neg hby, if_pos rfl]
    · unfold f_X9_use_n
      rw [e_flag, ob_some, if_neg hby, if_pos rfl]
theorem op_kindOf : OP_kindOf RR := by
  intro x_hasImage f_places f_kinds f_weights f_howManyGenerators f_generators f_racks f_howManySeen f_seenFirst f_seenSecond f_seenIs f_seenPlaces f_howManyEvents f_eventWhat f_eventNumber g_places g_kinds g_weights g_howManyGenerators g_generators g_racks g_howManySeen g_seenFirst g_seenSecond g_seenIs g_seenPlaces g_howManyEvents g_eventWhat g_eventNumber v_keys v_asFound v_found v_turns v_places p_keys p_asFound p_found p_turns p_places i_sort i_howOften i_sorts i_moves n_u u_leasts u_howMany u_known n_w w_leasts w_howMany w_known t_signs t_length t_whole t_begins t_ends r_sorts r_numbers r_length sr ln it z_thrown z_s z_kept z_isKept z_moveMany z_moves z_hands z_troubles z_troubleSorts z_troubleNumbers z_asked z_paint z_leasts z_isSeen z_classMany z_types z_typeCounts z_typeMany z_text z_signs z_at z_lacks z_clauses z_begun z_letters z_firsts z_seconds z_aside z_sorts z_sizes z_items hR p1 p2 p3
  obtain ⟨n, k, m, gk, w, B, hF, hV, hI, hu, hw, ht, hr, hs⟩ := hR
  have hF' := hF
  obtain ⟨hb, ⟨rfl, rfl, rfl⟩, ⟨hz0, hz1, hz2⟩, hw4, hG, hK, hS, hE⟩ := hF
  have hV' := hV
  obtain ⟨hB, ⟨hKy, hAs, rfl, rfl⟩, rfl⟩ := hV
  have hm4 := hb.2.2.2.2
  have h2n := hb.1
  have h6 := hb.2.1
  have hk1 := hb.2.2.1
  have hk4 := hb.2.2.2.1
  have hKS := KS_of hb hG hB
  have hl := hKS.2
  have hL := srt_len B
  have hpos : 0 < B.length := List.length_pos_of_mem hKS.1.2.2.1
  obtain ⟨mv', hd', hM, e1⟩ := r_moves_ (mv := z_moves) (hd := z_hands) (mm := z_moveMany) hb.2.1 hm4 (ZG_of hz0 hz2 hG) (fun i hi => (hG i hi).1) hB
  have ein : f_X10_in (p3.toInt64) 0 3 = some (if (0 : Int32) ≤ p3 ∧ p3 ≤ 3 then 1 else 0) := r_inN (by decide) (by decide)
  have h4 := pow_4096 h6 hk4
  by_cases hby : (0 : Int32) ≤ p1 ∧ p1 ≤ 1
  · by_cases h0 : 0 ≤ p2
    · rcases flag_01 hby with rfl | rfl
      · have hLl := LQ_len n k (BY 0 B) (k ^ n)
        obtain ⟨mv2, hd2, pa2, le2, se2, hM2, hA2, e2⟩ := r_allClasses (mv := z_moves) (hd := z_hands) (mm := z_moveMany) (pa := z_paint) (le := z_leasts) (se := z_isSeen) (cm := z_classMany) (b := 0) h6 hk1 hk4 hm4 (ZG_of hz0 hz2 hG) hz1 (fun i hi => (hG i hi).1) hB (by omega) hKS
        obtain ⟨nu', ul', e4, g1, g2, g3⟩ := e_classesBy_0 h2n h6 hk1 hk4 hKS hKy hu
        have hLp : 0 < (LQ n k (BY 0 B) (k ^ n)).length := by
          have hp : 0 < k ^ n := Nat.pow_pos (by omega)
          have hP0 := pt_Pt (i := 0) h6 hk1 (show k ≤ 8 by omega)
          have hS2 := lst_Pt h6 (show k ≤ 8 by omega) (BY_Gp (b := 0) hKS.1) hP0
          refine List.length_pos_of_mem (a := lst n (pt n k 0) (BY 0 B)) ?_
          unfold LQ
          refine List.mem_filter.mpr ⟨(XX_mem h6 hk1 (by omega)).mpr hS2, decide_eq_true (lst_idem h6 (by omega) (BY_Gp hKS.1) hP0)⟩
        have hcl : ∀ {r : Option (Int32 × Nat × (Nat → Int32) × Int32 × Int32)}, (if p2 < nI (LQ n k (BY 0 B) (k ^ n)).length then ((q_rd ul' nu' p2).bind fun t6 => if p3 = 0 then ((f_X9_paintingNumber t6 (nI n)).bind fun t8 => some (t8, nu', ul', nI (LQ n k (BY 0 B) (k ^ n)).length, 1)) else (if p3 = 1 then ((f_X5_howManyMade t6 0 v_keys (nI B.length) (nI (B.countP (fun K => decide (K % 2 = 0)))) (nI n)).bind fun t10 => some (t10, nu', ul', nI (LQ n k (BY 0 B) (k ^ n)).length, 1)) else (if p3 = 2 then ((f_X3_weightOf t6 (nI n) f_weights).bind fun t12 => some (t12, nu', ul', nI (LQ n k (BY 0 B) (k ^ n)).length, 1)) else (if p3 = 3 then ((f_X2_howOftenEach t6 (nI n)).bind fun t14 => some (t14, nu', ul', nI (LQ n k (BY 0 B) (k ^ n)).length, 1)) else (some ((-1), nu', ul', nI (LQ n k (BY 0 B) (k ^ n)).length, 1)))))) else (some ((-1), nu', ul', nI (LQ n k (BY 0 B) (k ^ n)).length, 1))) = r → f_X9_kindOf_0 p2 p3 (nI n) (nI k) f_weights v_keys (nI B.length) (nI (B.countP (fun K => decide (K % 2 = 0)))) (nI n) n_u u_leasts u_howMany u_known = r := by
          intro r h
          unfold f_X9_kindOf_0
          rw [show f_X9_isFlag 0 = some 1 from rfl, ob_some, if_neg (show ¬ (1 : Int32) = 0 by decide), if_pos h0, e4, ob_some]
          exact h
        by_cases hin : (0 : Int32) ≤ p3 ∧ p3 ≤ 3
        · have ein2 : f_X10_in (p2.toInt64) 0 ((nI (LQ n k (BY 0 B) (k ^ n)).length - 1 : Int32).toInt64) = some (if (0 : Int32) ≤ p2 ∧ p2 ≤ nI (LQ n k (BY 0 B) (k ^ n)).length - 1 then 1 else 0) := r_inN (l := 0) (by decide) rfl
          rw [nI_dec hLp] at ein2
          have hrf : ∀ {r : Option (Int32 × Int32 × (Nat → Int32) × (Nat → Int32) × (Nat → Int32) × (Nat → Int32) × (Nat → Int32) × Int32)}, (if (if (0 : Int32) ≤ p2 ∧ p2 ≤ nI ((LQ n k (BY 0 B) (k ^ n)).length - 1) then (1 : Int32) else 0) = 0 then (some ((-1), nI B.length, mv2, hd2, pa2, le2, se2, nI (LQ n k (BY 0 B) (k ^ n)).length)) else ((q_rd le2 4096 p2).bind fun t8 => if p3 = 0 then ((f_X10_tellsPainting t8 z_s pa2).bind fun t15 => some (t15.1, nI B.length, mv2, hd2, t15.2, le2, se2, nI (LQ n k (BY 0 B) (k ^ n)).length)) else (if p3 = 1 then ((f_X10_sizeOf 0 t8 z_s (nI B.length) mv2 hd2 pa2).bind fun t14 => some (t14.1, nI B.length, mv2, hd2, t14.2, le2, se2, nI (LQ n k (BY 0 B) (k ^ n)).length)) else (if p3 = 2 then ((f_X10_heavyOf t8 z_s pa2).bind fun t13 => some (t13.1, nI B.length, mv2, hd2, t13.2, le2, se2, nI (LQ n k (BY 0 B) (k ^ n)).length)) else ((f_X10_useOf t8 z_s pa2).bind fun t12 => some (t12.1, nI B.length, mv2, hd2, t12.2, le2, se2, nI (LQ n k (BY 0 B) (k ^ n)).length)))))) = r → f_X10_kindOf (nI 0) p2 p3 z_s z_moveMany z_moves z_hands z_paint z_leasts z_isSeen z_classMany = r := by
            intro r h
            unfold f_X10_kindOf
            rw [r_by, ob_some, if_pos hby, if_neg (show ¬ (1 : Int32) = 0 by decide), ein, ob_some, if_pos hin, if_neg (show ¬ (1 : Int32) = 0 by decide), e2, ob_some]
            show (f_X10_in (p2.toInt64) 0 ((nI (LQ n k (BY 0 B) (k ^ n)).length - 1 : Int32).toInt64)).bind _ = r
            rw [nI_dec hLp, ein2, ob_some]
            exact h
          rcases row_dec p2 hLp (by omega) with ⟨v, hv, rfl⟩ | ⟨q1, q2⟩
          · have hin2 := row_in hv (by omega)
            have hP := LQ_Pt h6 hk1 hk4 (getD_mem hv)
            have hlt : nI v < nI (LQ n k (BY 0 B) (k ^ n)).length := nI_lt hv (by omega)
            obtain ⟨x, -, hx, rfl⟩ := in_nat (l := 0) (h := 3) (by decide) (by decide) hin
            rcases (show x = 0 ∨ x = 1 ∨ x = 2 ∨ x = 3 by omega) with rfl | rfl | rfl | rfl
            · obtain ⟨pa3, e5⟩ := r_tells (pa := pa2) h6 hk1 hk4 hz0 hz1 hP
              refine ⟨(nI (cb 10 (dg ((LQ n k (BY 0 B) (k ^ n)).getD v 0)) n), nI B.length, mv2, hd2, pa3, le2, se2, nI (LQ n k (BY 0 B) (k ^ n)).length), hrf ?_, Or.inl ⟨rfl, (nI (cb 10 (dg ((LQ n k (BY 0 B) (k ^ n)).getD v 0)) n), nu', ul', nI (LQ n k (BY 0 B) (k ^ n)).length, 1), hcl ?_, rfl, RR_mk hF' hV' hI ⟨g1, Or.inr ⟨rfl, g2, rfl, g3⟩⟩ hw ht hr hs⟩⟩
              · rw [if_pos hin2, if_neg (show ¬ (1 : Int32) = 0 by decide), qe_rd _ (by omega) (by decide), ob_some, hA2 v hv, if_pos (show nI 0 = (0 : Int32) from rfl), e5, ob_some]
              · rw [if_pos hlt, qe_rd _ (by omega) (by omega), ob_some, g2 v hv, if_pos (show nI 0 = (0 : Int32) from rfl), e_pn h6 hP, ob_some]
            · obtain ⟨pa3, -, e5⟩ := r_sizeOf (pa := pa2) (b := 0) h6 hk1 hk4 hz0 hz1 (by omega) hKS hM2 hP
              refine ⟨(nI (siz n ((LQ n k (BY 0 B) (k ^ n)).getD v 0) (BY 0 B)), nI B.length, mv2, hd2, pa3, le2, se2, nI (LQ n k (BY 0 B) (k ^ n)).length), hrf ?_, Or.inl ⟨rfl, (nI (siz n ((LQ n k (BY 0 B) (k ^ n)).getD v 0) (BY 0 B)), nu', ul', nI (LQ n k (BY 0 B) (k ^ n)).length, 1), hcl ?_, rfl, RR_mk hF' hV' hI ⟨g1, Or.inr ⟨rfl, g2, rfl, g3⟩⟩ hw ht hr hs⟩⟩
              · rw [if_pos hin2, if_neg (show ¬ (1 : Int32) = 0 by decide), qe_rd _ (by omega) (by decide), ob_some, hA2 v hv, if_neg (by decide), if_pos (show nI 1 = (1 : Int32) from rfl), show f_X10_sizeOf 0 (nI (idx n k ((LQ n k (BY 0 B) (k ^ n)).getD v 0))) z_s (nI B.length) mv2 hd2 pa2 = _ from e5, ob_some]
              · rw [if_pos hlt, qe_rd _ (by omega) (by omega), ob_some, g2 v hv, if_neg (by decide), if_pos (show nI 1 = (1 : Int32) from rfl), show f_X5_howManyMade (nI ((LQ n k (BY 0 B) (k ^ n)).getD v 0)) 0 v_keys (nI B.length) (nI (B.countP (fun K => decide (K % 2 = 0)))) (nI n) = _ from e_howManyMade (b := 0) h6 hP (by omega) hKS hKy, ob_some]
            · obtain ⟨pa3, -, e5⟩ := r_heavyOf (pa := pa2) h6 hk1 hk4 hz0 hz1 (fun j hj => (hw4 j hj).2.2) hP
              refine ⟨(nI (wt n w ((LQ n k (BY 0 B) (k ^ n)).getD v 0)), nI B.length, mv2, hd2, pa3, le2, se2, nI (LQ n k (BY 0 B) (k ^ n)).length), hrf ?_, Or.inl ⟨rfl, (nI (wt n w ((LQ n k (BY 0 B) (k ^ n)).getD v 0)), nu', ul', nI (LQ n k (BY 0 B) (k ^ n)).length, 1), hcl ?_, rfl, RR_mk hF' hV' hI ⟨g1, Or.inr ⟨rfl, g2, rfl, g3⟩⟩ hw ht hr hs⟩⟩
              · rw [if_pos hin2, if_neg (show ¬ (1 : Int32) = 0 by decide), qe_rd _ (by omega) (by decide), ob_some, hA2 v hv, if_neg (by decide), if_neg (by decide), if_pos (show nI 2 = (2 : Int32) from rfl), e5, ob_some]
              · rw [if_pos hlt, qe_rd _ (by omega) (by omega), ob_some, g2 v hv, if_neg (by decide), if_neg (by decide), if_pos (show nI 2 = (2 : Int32) from rfl), e_weightOf h6 hk4 hP (fun j hj => (hw4 j hj).2.1), ob_some]
            · obtain ⟨pa3, e5⟩ := r_useOf (pa := pa2) h6 hk1 hk4 hz0 hz1 hP
              refine ⟨(nI (use_ n ((LQ n k (BY 0 B) (k ^ n)).getD v 0)), nI B.length, mv2, hd2, pa3, le2, se2, nI (LQ n k (BY 0 B) (k ^ n)).length), hrf ?_, Or.inl ⟨rfl, (nI (use_ n ((LQ n k (BY 0 B) (k ^ n)).getD v 0)), nu', ul', nI (LQ n k (BY 0 B) (k ^ n)).length, 1), hcl ?_, rfl, RR_mk hF' hV' hI ⟨g1, Or.inr ⟨rfl, g2, rfl, g3⟩⟩ hw ht hr hs⟩⟩
              · rw [if_pos hin2, if_neg (show ¬ (1 : Int32) = 0 by decide), qe_rd _ (by omega) (by decide), ob_some, hA2 v hv, if_neg (by decide), if_neg (by decide), if_neg (by decide), e5, ob_some]
              · rw [if_pos hlt, qe_rd _ (by omega) (by omega), ob_some, g2 v hv, if_neg (by decide), if_neg (by decide), if_neg (by decide), if_pos (show nI 3 = (3 : Int32) from rfl), e_howOftenEach h6 hk4 hP, ob_some]
          · refine ⟨(-1, nI B.length, mv2, hd2, pa2, le2, se2, nI (LQ n k (BY 0 B) (k ^ n)).length), hrf ?_, Or.inl ⟨rfl, (-1, nu', ul', nI (LQ n k (BY 0 B) (k ^ n)).length, 1), hcl ?_, rfl, RR_mk hF' hV' hI ⟨g1, Or.inr ⟨rfl, g2, rfl, g3⟩⟩ hw ht hr hs⟩⟩
            · rw [if_neg q1, if_pos rfl]
            · rw [if_neg]
              rcases q2 with q2 | q2
              · exact absurd q2 (nlt_le.mpr h0)
              · exact nlt_le.mpr q2
        · refine ⟨(-1, z_moveMany, z_moves, z_hands, z_paint, z_leasts, z_isSeen, z_classMany), ?_, Or.inl ⟨rfl, (-1, nu', ul', nI (LQ n k (BY 0 B) (k ^ n)).length, 1), hcl ?_, rfl, RR_mk hF' hV' hI ⟨g1, Or.inr ⟨rfl, g2, rfl, g3⟩⟩ hw ht hr hs⟩⟩
          · unfold f_X10_kindOf
            rw [r_by, ob_some, if_pos hby, if_neg (show ¬ (1 : Int32) = 0 by decide), ein, ob_some, if_neg hin, if_pos rfl]
          · by_cases hlt : p2 < nI (LQ n k (BY 0 B) (k ^ n)).length
            · obtain ⟨v, hv, rfl⟩ := nI_of (nlt_le.mpr h0)
              have hv2 := (nI_ltI hv (by omega)).mp hlt
              rw [if_pos hlt, qe_rd _ (by omega) (by omega), ob_some, if_neg (by rintro rfl; exact hin (by decide)), if_neg (by rintro rfl; exact hin (by decide)), if_neg (by rintro rfl; exact hin (by decide)), if_neg (by rintro rfl; exact hin (by decide))]
            · rw [if_neg hlt]
      · have hLl := LQ_len n k (BY 1 B) (k ^ n)
        obtain ⟨mv2, hd2, pa2, le2, se2, hM2, hA2, e2⟩ := r_allClasses (mv := z_moves) (hd := z_hands) (mm := z_moveMany) (pa := z_paint) (le := z_leasts) (se := z_isSeen) (cm := z_classMany) (b := 1) h6 hk1 hk4 hm4 (ZG_of hz0 hz2 hG) hz1 (fun i hi => (hG i hi).1) hB (by omega) hKS
        obtain ⟨nu', ul', e4, g1, g2, g3⟩ := e_classesBy_1 h2n h6 hk1 hk4 hKS hKy hw
        have hLp : 0 < (LQ n k (BY 1 B) (k ^ n)).length := by
          have hp : 0 < k ^ n := Nat.pow_pos (by omega)
          have hP0 := pt_Pt (i := 0) h6 hk1 (show k ≤ 8 by omega)
          have hS2 := lst_Pt h6 (show k ≤ 8 by omega) (BY_Gp (b := 1) hKS.1) hP0
          refine List.length_pos_of_mem (a := lst n (pt n k 0) (BY 1 B)) ?_
          unfold LQ
          refine List.mem_filter.mpr ⟨(XX_mem h6 hk1 (by omega)).mpr hS2, decide_eq_true (lst_idem h6 (by omega) (BY_Gp hKS.1) hP0)⟩
        have hcl : ∀ {r : Option (Int32 × Nat × (Nat → Int32) × Int32 × Int32)}, (if p2 < nI (LQ n k (BY 1 B) (k ^ n)).length then ((q_rd ul' nu' p2).bind fun t6 => if p3 = 0 then ((f_X9_paintingNumber t6 (nI n)).bind fun t8 => some (t8, nu', ul', nI (LQ n k (BY 1 B) (k ^ n)).length, 1)) else (if p3 = 1 then ((f_X5_howManyMade t6 1 v_keys (nI B.length) (nI (B.countP (fun K => decide (K % 2 = 0)))) (nI n)).bind fun t10 => some (t10, nu', ul', nI (LQ n k (BY 1 B) (k ^ n)).length, 1)) else (if p3 = 2 then ((f_X3_weightOf t6 (nI n) f_weights).bind fun t12 => some (t12, nu', ul', nI (LQ n k (BY 1 B) (k ^ n)).length, 1)) else (if p3 = 3 then ((f_X2_howOftenEach t6 (nI n)).bind fun t14 => some (t14, nu', ul', nI (LQ n k (BY 1 B) (k ^ n)).length, 1)) else (some ((-1), nu', ul', nI (LQ n k (BY 1 B) (k ^ n)).length, 1)))))) else (some ((-1), nu', ul', nI (LQ n k (BY 1 B) (k ^ n)).length, 1))) = r → f_X9_kindOf_1 p2 p3 (nI n) (nI k) f_weights v_keys (nI B.length) (nI (B.countP (fun K => decide (K % 2 = 0)))) (nI n) n_w w_leasts w_howMany w_known = r := by
          intro r h
          unfold f_X9_kindOf_1
          rw [show f_X9_isFlag 1 = some 1 from rfl, ob_some, if_neg (show ¬ (1 : Int32) = 0 by decide), if_pos h0, e4, ob_some]
          exact h
        by_cases hin : (0 : Int32) ≤ p3 ∧ p3 ≤ 3
        · have ein2 : f_X10_in (p2.toInt64) 0 ((nI (LQ n k (BY 1 B) (k ^ n)).length - 1 : Int32).toInt64) = some (if (0 : Int32) ≤ p2 ∧ p2 ≤ nI (LQ n k (BY 1 B) (k ^ n)).length - 1 then 1 else 0) := r_inN (l := 0) (by decide) rfl
          rw [nI_dec hLp] at ein2
          have hrf : ∀ {r : Option (Int32 × Int32 × (Nat → Int32) × (Nat → Int32) × (Nat → Int32) × (Nat → Int32) × (Nat → Int32) × Int32)}, (if (if (0 : Int32) ≤ p2 ∧ p2 ≤ nI ((LQ n k (BY 1 B) (k ^ n)).length - 1) then (1 : Int32) else 0) = 0 then (some ((-1), nI B.length, mv2, hd2, pa2, le2, se2, nI (LQ n k (BY 1 B) (k ^ n)).length)) else ((q_rd le2 4096 p2).bind fun t8 => if p3 = 0 then ((f_X10_tellsPainting t8 z_s pa2).bind fun t15 => some (t15.1, nI B.length, mv2, hd2, t15.2, le2, se2, nI (LQ n k (BY 1 B) (k ^ n)).length)) else (if p3 = 1 then ((f_X10_sizeOf 1 t8 z_s (nI B.length) mv2 hd2 pa2).bind fun t14 => some (t14.1, nI B.length, mv2, hd2, t14.2, le2, se2, nI (LQ n k (BY 1 B) (k ^ n)).length)) else (if p3 = 2 then ((f_X10_heavyOf t8 z_s pa2).bind fun t13 => some (t13.1, nI B.length, mv2, hd2, t13.2, le2, se2, nI (LQ n k (BY 1 B) (k ^ n)).length)) else ((f_X10_useOf t8 z_s pa2).bind fun t12 => some (t12.1, nI B.length, mv2, hd2, t12.2, le2, se2, nI (LQ n k (BY 1 B) (k ^ n)).length)))))) = r → f_X10_kindOf (nI 1) p2 p3 z_s z_moveMany z_moves z_hands z_paint z_leasts z_isSeen z_classMany = r := by
            intro r h
            unfold f_X10_kindOf
            rw [r_by, ob_some, if_pos hby, if_neg (show ¬ (1 : Int32) = 0 by decide), ein, ob_some, if_pos hin, if_neg (show ¬ (1 : Int32) = 0 by decide), e2, ob_some]
            show (f_X10_in (p2.toInt64) 0 ((nI (LQ n k (BY 1 B) (k ^ n)).length - 1 : Int32).toInt64)).bind _ = r
            rw [nI_dec hLp, ein2, ob_some]
            exact h
          rcases row_dec p2 hLp (by omega) with ⟨v, hv, rfl⟩ | ⟨q1, q2⟩
          · have hin2 := row_in hv (by omega)
            have hP := LQ_Pt h6 hk1 hk4 (getD_mem hv)
            have hlt : nI v < nI (LQ n k (BY 1 B) (k ^ n)).length := nI_lt hv (by omega)
            obtain ⟨x, -, hx, rfl⟩ := in_nat (l := 0) (h := 3) (by decide) (by decide) hin
            rcases (show x = 0 ∨ x = 1 ∨ x = 2 ∨ x = 3 by omega) with rfl | rfl | rfl | rfl
            · obtain ⟨pa3, e5⟩ := r_tells (pa := pa2) h6 hk1 hk4 hz0 hz1 hP
              refine ⟨(nI (cb 10 (dg ((LQ n k (BY 1 B) (k ^ n)).getD v 0)) n), nI B.length, mv2, hd2, pa3, le2, se2, nI (LQ n k (BY 1 B) (k ^ n)).length), hrf ?_, Or.inr (Or.inl ⟨rfl, (nI (cb 10 (dg ((LQ n k (BY 1 B) (k ^ n)).getD v 0)) n), nu', ul', nI (LQ n k (BY 1 B) (k ^ n)).length, 1), hcl ?_, rfl, RR_mk hF' hV' hI hu ⟨g1, Or.inr ⟨rfl, g2, rfl, g3⟩⟩ ht hr hs⟩)⟩
              · rw [if_pos hin2, if_neg (show ¬ (1 : Int32) = 0 by decide), qe_rd _ (by omega) (by decide), ob_some, hA2 v hv, if_pos (show nI 0 = (0 : Int32) from rfl), e5, ob_some]
              · rw [if_pos hlt, qe_rd _ (by omega) (by omega), ob_some, g2 v hv, if_pos (show nI 0 = (0 : Int32) from rfl), e_pn h6 hP, ob_some]
            · obtain ⟨pa3, -, e5⟩ := r_sizeOf (pa := pa2) (b := 1) h6 hk1 hk4 hz0 hz1 (by omega) hKS hM2 hP
              refine ⟨(nI (siz n ((LQ n k (BY 1 B) (k ^ n)).getD v 0) (BY 1 B)), nI B.length, mv2, hd2, pa3, le2, se2, nI (LQ n k (BY 1 B) (k ^ n)).length), hrf ?_, Or.inr (Or.inl ⟨rfl, (nI (siz n ((LQ n k (BY 1 B) (k ^ n)).getD v 0) (BY 1 B)), nu', ul', nI (LQ n k (BY 1 B) (k ^ n)).length, 1), hcl ?_, rfl, RR_mk hF' hV' hI hu ⟨g1, Or.inr ⟨rfl, g2, rfl, g3⟩⟩ ht hr hs⟩)⟩
              · rw [if_pos hin2, if_neg (show ¬ (1 : Int32) = 0 by decide), qe_rd _ (by omega) (by decide), ob_some, hA2 v hv, if_neg (by decide), if_pos (show nI 1 = (1 : Int32) from rfl), show f_X10_sizeOf 1 (nI (idx n k ((LQ n k (BY 1 B) (k ^ n)).getD v 0))) z_s (nI B.length) mv2 hd2 pa2 = _ from e5, ob_some]
              · rw [if_pos hlt, qe_rd _ (by omega) (by omega), ob_some, g2 v hv, if_neg (by decide), if_pos (show nI 1 = (1 : Int32) from rfl), show f_X5_howManyMade (nI ((LQ n k (BY 1 B) (k ^ n)).getD v 0)) 1 v_keys (nI B.length) (nI (B.countP (fun K => decide (K % 2 = 0)))) (nI n) = _ from e_howManyMade (b := 1) h6 hP (by omega) hKS hKy, ob_some]
            · obtain ⟨pa3, -, e5⟩ := r_heavyOf (pa := pa2) h6 hk1 hk4 hz0 hz1 (fun j hj => (hw4 j hj).2.2) hP
              refine ⟨(nI (wt n w ((LQ n k (BY 1 B) (k ^ n)).getD v 0)), nI B.length, mv2, hd2, pa3, le2, se2, nI (LQ n k (BY 1 B) (k ^ n)).length), hrf ?_, Or.inr (Or.inl ⟨rfl, (nI (wt n w ((LQ n k (BY 1 B) (k ^ n)).getD v 0)), nu', ul', nI (LQ n k (BY 1 B) (k ^ n)).length, 1), hcl ?_, rfl, RR_mk hF' hV' hI hu ⟨g1, Or.inr ⟨rfl, g2, rfl, g3⟩⟩ ht hr hs⟩)⟩
              · rw [if_pos hin2, if_neg (show ¬ (1 : Int32) = 0 by decide), qe_rd _ (by omega) (by decide), ob_some, hA2 v hv, if_neg (by decide), if_neg (by decide), if_pos (show nI 2 = (2 : Int32) from rfl), e5, ob_some]
              · rw [if_pos hlt, qe_rd _ (by omega) (by omega), ob_some, g2 v hv, if_neg (by decide), if_neg (by decide), if_pos (show nI 2 = (2 : Int32) from rfl), e_weightOf h6 hk4 hP (fun j hj => (hw4 j hj).2.1), ob_some]
            · obtain ⟨pa3, e5⟩ := r_useOf (pa := pa2) h6 hk1 hk4 hz0 hz1 hP
              refine ⟨(nI (use_ n ((LQ n k (BY 1 B) (k ^ n)).getD v 0)), nI B.length, mv2, hd2, pa3, le2, se2, nI (LQ n k (BY 1 B) (k ^ n)).length), hrf ?_, Or.inr (Or.inl ⟨rfl, (nI (use_ n ((LQ n k (BY 1 B) (k ^ n)).getD v 0)), nu', ul', nI (LQ n k (BY 1 B) (k ^ n)).length, 1), hcl ?_, rfl, RR_mk hF' hV' hI hu ⟨g1, Or.inr ⟨rfl, g2, rfl, g3⟩⟩ ht hr hs⟩)⟩
              · rw [if_pos hin2, if_neg (show ¬ (1 : Int32) = 0 by decide), qe_rd _ (by omega) (by decide), ob_some, hA2 v hv, if_neg (by decide), if_neg (by decide), if_neg (by decide), e5, ob_some]
              · rw [if_pos hlt, qe_rd _ (by omega) (by omega), ob_some, g2 v hv, if_neg (by decide), if_neg (by decide), if_neg (by decide), if_pos (show nI 3 = (3 : Int32) from rfl), e_howOftenEach h6 hk4 hP, ob_some]
          · refine ⟨(-1, nI B.length, mv2, hd2, pa2, le2, se2, nI (LQ n k (BY 1 B) (k ^ n)).length), hrf ?_, Or.inr (Or.inl ⟨rfl, (-1, nu', ul', nI (LQ n k (BY 1 B) (k ^ n)).length, 1), hcl ?_, rfl, RR_mk hF' hV' hI hu ⟨g1, Or.inr ⟨rfl, g2, rfl, g3⟩⟩ ht hr hs⟩)⟩
            · rw [if_neg q1, if_pos rfl]
            · rw [if_neg]
              rcases q2 with q2 | q2
              · exact absurd q2 (nlt_le.mpr h0)
              · exact nlt_le.mpr q2
        · refine ⟨(-1, z_moveMany, z_moves, z_hands, z_paint, z_leasts, z_isSeen, z_classMany), ?_, Or.inr (Or.inl ⟨rfl, (-1, nu', ul', nI (LQ n k (BY 1 B) (k ^ n)).length, 1), hcl ?_, rfl, RR_mk hF' hV' hI hu ⟨g1, Or.inr ⟨rfl, g2, rfl, g3⟩⟩ ht hr hs⟩)⟩
          · unfold f_X10_kindOf
            rw [r_by, ob_some, if_pos hby, if_neg (show ¬ (1 : Int32) = 0 by decide), ein, ob_some, if_neg hin, if_pos rfl]
          · by_cases hlt : p2 < nI (LQ n k (BY 1 B) (k ^ n)).length
            · obtain ⟨v, hv, rfl⟩ := nI_of (nlt_le.mpr h0)
              have hv2 := (nI_ltI hv (by omega)).mp hlt
              rw [if_pos hlt, qe_rd _ (by omega) (by omega), ob_some, if_neg (by rintro rfl; exact hin (by decide)), if_neg (by rintro rfl; exact hin (by decide)), if_neg (by rintro rfl; exact hin (by decide)), if_neg (by rintro rfl; exact hin (by decide))]
            · rw [if_neg hlt]
    · have hni : ∃ r, f_X10_kindOf p1 p2 p3 z_s z_moveMany z_moves z_hands z_paint z_leasts z_isSeen z_classMany = some r ∧ r.1 = -1 := by
        unfold f_X10_kindOf
        rw [r_by, ob_some, if_pos hby, if_neg (show ¬ (1 : Int32) = 0 by decide), ein, ob_some]
        by_cases hin : (0 : Int32) ≤ p3 ∧ p3 ≤ 3
        · rw [if_pos hin, if_neg (show ¬ (1 : Int32) = 0 by decide)]
          obtain ⟨b, hb2, rfl⟩ : ∃ b, b ≤ 1 ∧ p1 = nI b := by
            rcases flag_01 hby with rfl | rfl
            · exact ⟨0, by omega, rfl⟩
            · exact ⟨1, by omega, rfl⟩
          obtain ⟨mv2, hd2, pa2, le2, se2, hM2, hA2, e2⟩ := r_allClasses (mv := z_moves) (hd := z_hands) (mm := z_moveMany) (pa := z_paint) (le := z_leasts) (se := z_isSeen) (cm := z_classMany) (b := b) h6 hk1 hk4 hm4 (ZG_of hz0 hz2 hG) hz1 (fun i hi => (hG i hi).1) hB hb2 hKS
          rw [e2, ob_some, show f_X10_in (p2.toInt64) 0 ((((nI B.length, mv2, hd2, pa2, le2, se2, nI (LQ n k (BY b B) (k ^ n)).length) : Int32 × (Nat → Int32) × (Nat → Int32) × (Nat → Int32) × (Nat → Int32) × (Nat → Int32) × Int32).2.2.2.2.2.2 - 1 : Int32).toInt64) = _ from r_inN (l := 0) (by decide) rfl, ob_some, if_neg (show ¬ ((0 : Int32) ≤ p2 ∧ p2 ≤ nI (LQ n k (BY b B) (k ^ n)).length - 1) from fun q => h0 q.1), if_pos rfl]
          exact ⟨_, rfl, rfl⟩
        · rw [if_neg hin, if_pos rfl]
          exact ⟨_, rfl, rfl⟩
      obtain ⟨r, er, er1⟩ := hni
      refine ⟨r, er, Or.inr (Or.inr ⟨-1, ?_, er1.symm, RR_mk hF' hV' hI hu hw ht hr hs⟩)⟩
      unfold f_X9_kindOf_n
      rw [e_flag, ob_some, if_pos hby, if_neg (show ¬ (1 : Int32) = 0 by decide), if_neg h0]
  · refine ⟨(-1, z_moveMany, z_moves, z_hands, z_paint, z_leasts, z_isSeen, z_classMany), ?_, Or.inr (Or.inr ⟨-1, ?_, rfl, RR_mk hF' hV' hI hu hw ht hr hs⟩)⟩
    · unfold f_X10_kindOf
      rw [r_by, ob_some, if_neg hby, if_pos rfl]
    · unfold f_X9_kindOf_n
      rw [e_flag, ob_some, if_neg hby, if_pos rfl]
