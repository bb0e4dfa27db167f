-- ===== fits: all sets =====
theorem sel_Mv {n m s : Nat} {gk : Nat → Nat} (hg : ∀ i, i < m → Mv n (gk i)) : ∀ g ∈ sel s gk m 0, Mv n g := fun g h => by
  obtain ⟨j, -, h2, -, rfl⟩ := sel_of _ _ _ h
  exact hg j (by omega)
theorem sel_in_full {m s : Nat} {gk : Nat → Nat} : ∀ g ∈ sel s gk m 0, g ∈ sel (2 ^ m - 1) gk m 0 := fun g h => by
  obtain ⟨j, -, h2, h3, rfl⟩ := sel_of _ _ _ h
  exact sel_mem m 0 j (Nat.zero_le _) h2 (by rw [Nat.testBit_two_pow_sub_one]; exact decide_eq_true (by omega))
theorem gen_part {n m s : Nat} {gk : Nat → Nat} {B : List Nat} (hn : n ≤ 6) (hg : ∀ i, i < m → Mv n (gk i)) (hB : gen n (sel (2 ^ m - 1) gk m 0) = some B) : gen n (sel s gk m 0) = some ((gen n (sel s gk m 0)).getD []) ∧ KS ((gen n (sel s gk m 0)).getD []) n := by
  obtain ⟨C, hC⟩ := gen_sub (gs := sel s gk m 0) sel_in_full hB
  rw [hC]
  exact ⟨rfl, gen_Gp hn (sel_Mv hg) hC, (gen_spec hC).1.2.2.2⟩
theorem r_fits_L {z : Nat → Int32} {n k m c : Nat} {gk : Nat → Nat} {B : List Nat} {s1 s2 si sp : Nat → Int32} {l1 : Int32} (h1n : 1 ≤ n) (hn : n ≤ 6) (hk1 : 1 ≤ k) (hk : k ≤ 4) (hm : m ≤ 4) (hZ : ZG z n m gk) (hz1 : z 1 = nI k) (hz3 : z 3 = nI c) (hc : c ≤ 5) (hg : ∀ i, i < m → Mv n (gk i)) (hB : gen n (sel (2 ^ m - 1) gk m 0) = some B) (hS : ∀ j, j < c → SR (s1 j) (s2 j) (si j) (sp j) (z (46 + 4 * j)) (z (46 + 4 * j + 1)) (z (46 + 4 * j + 2)) (z (46 + 4 * j + 3))) (K : Int32 → Int32 → Int32 → Int32 → (Nat → Int32) → (Nat → Int32) → (Nat → Int32) → Option (Int32 × Int32 × (Nat → Int32) × (Nat → Int32) × (Nat → Int32))) (fit : Nat → Bool) (hfit : ∀ s, s < 2 ^ m → fit s = allb (fun j => ctb n k (s1 j) (s2 j) (sp j) && dso n ((gen n (sel s gk m 0)).getD []) (s1 j) (s2 j) (si j)) c 0) : ∀ s fu mm mv hd pa, s ≤ 2 ^ m → s < fu → ∃ x mm' mv' hd' pa', f_X10_fits_L23 l1 z K fu (nI (cnf fit (2 ^ m - s) s)) (mif fit (2 ^ m - s) s) (nI s - 1) mm mv hd pa = K (nI (cnf fit (2 ^ m) 0)) (mif fit (2 ^ m) 0) x mm' mv' hd' pa'
  | s, 0, _, _, _, _, _, h => by omega
  | 0, fu + 1, mm, mv, hd, pa, _, _ => by
    rw [f_X10_fits_L23, if_pos nI_dneg]
    exact ⟨_, _, _, _, _, rfl⟩
  | s + 1, fu + 1, mm, mv, hd, pa, hs, hfu => by
    have hm2 : 2 ^ m ≤ 2 ^ 4 := Nat.pow_le_pow_right (by decide) hm
    obtain ⟨h1, h2⟩ := gen_part (s := s) hn hg hB
    obtain ⟨mv1, hd1, hM, e1⟩ := (r_moves (mv := mv) (hd := hd) (mm := mm) (set := s) hn hm hZ (by omega) (fun i hi _ => hg i hi)).1 _ h1
    obtain ⟨pa1, e2⟩ := r_allSo_L h1n hn hk1 hk hZ.1 hz1 hz3 hc h2 hM hS c 0 q_fu pa (by omega) (fu_lt (by omega))
    rw [← hfit s (by omega)] at e2
    have e3 : f_X10_isAllSo z (nI ((gen n (sel s gk m 0)).getD []).length) mv1 hd1 pa = some (if fit s = true then 1 else 0, pa1) := e2
    have eN : 2 ^ m - s = (2 ^ m - (s + 1)) + 1 := by omega
    have hcl := cnf_le fit (2 ^ m - (s + 1)) (s + 1)
    rw [f_X10_fits_L23, nI_dec (by omega), Nat.add_sub_cancel, if_neg (nI_pos (by omega)), e1, ob_some, e3, ob_some, show nI s + (-1) = nI s - 1 from (Int32.sub_eq_add_neg _ _).symm]
    have ih := r_fits_L (l1 := l1) h1n hn hk1 hk hm hZ hz1 hz3 hc hg hB hS K fit hfit s fu (nI ((gen n (sel s gk m 0)).getD []).length) mv1 hd1 pa1 (by omega) (by omega)
    rw [eN, cnf, mif] at ih
    by_cases h : fit s = true
    · rw [if_pos h, if_pos h] at ih
      rw [if_pos h, if_neg (show ¬ (1 : Int32) = 0 by decide), nI_1, Nat.add_comm]
      exact ih
    · rw [if_neg h, if_neg h, Nat.zero_add] at ih
      rw [if_neg h, if_pos rfl]
      exact ih
theorem e_fits_L {z fg : Nat → Int32} {n k m c : Nat} {gk : Nat → Nat} {B : List Nat} {s1 s2 si sp : Nat → Int32} {l1 : Int32} (hn : n ≤ 6) (hk : k ≤ 4) (hm : m ≤ 4) (hc : c ≤ 5) (hg : ∀ i, i < m → Mv n (gk i)) (hfg : ∀ i, i < m → fg i = nI (gk i)) (hB : gen n (sel (2 ^ m - 1) gk m 0) = some B) (hS : ∀ j, j < c → SR (s1 j) (s2 j) (si j) (sp j) (z (46 + 4 * j)) (z (46 + 4 * j + 1)) (z (46 + 4 * j + 2)) (z (46 + 4 * j + 3))) (hct : allb (fun j => ctb n k (s1 j) (s2 j) (sp j)) c 0 = true) (K : Int32 → Int32 → Int32 → (Nat → Int32) → (Nat → Int32) → Int32 → Int32 → Int32 → Option (Int32 × (Nat → Int32) × (Nat → Int32) × Int32 × Int32 × Int32)) (fit : Nat → Bool) (hfit : ∀ s, s < 2 ^ m → fit s = allb (fun j => ctb n k (s1 j) (s2 j) (sp j) && dso n ((gen n (sel s gk m 0)).getD []) (s1 j) (s2 j) (si j)) c 0) : ∀ d i fu acc l3 pk pa pf pt pp, i + d = 2 ^ m → d < fu → acc ≤ i → (acc = 0 → l3 = -5) → ∃ x pk' pa' pf' pt' pp', f_X9_fits_L37 l1 (nI (2 ^ m)) 1 (nI n) fg (nI c) s1 s2 si K fu (nI acc) l3 (nI i) pk pa pf pt pp = K (nI (acc + cnf fit d i)) (if acc = 0 then mif fit d i else l3) x pk' pa' pf' pt' pp'
  | d, i, 0, _, _, _, _, _, _, _, _, h, _, _ => by omega
  | 0, i, fu + 1, acc, l3, pk, pa, pf, pt, pp, hi, _, _, hl => by
    have hm2 : 2 ^ m ≤ 2 ^ 4 := Nat.pow_le_pow_right (by decide) hm
    rw [f_X9_fits_L37, if_neg (show ¬ (1 : Int32) = 0 by decide), if_pos (nI_le (by omega) (by omega))]
    refine ⟨nI i, pk, pa, pf, pt, pp, ?_⟩
    by_cases h : acc = 0
    · rw [if_pos h, hl h]
      rfl
    · rw [if_neg h]
      rfl
  | d + 1, i, fu + 1, acc, l3, pk, pa, pf, pt, pp, hi, hfu, hac, hl => by
    have hm2 : 2 ^ m ≤ 2 ^ 4 := Nat.pow_le_pow_right (by decide) hm
    obtain ⟨h1, h2⟩ := gen_part (s := i) hn hg hB
    have hi2 : i < 2 ^ m := by omega
    obtain ⟨k', a', f', t', hV, e1⟩ := (e_grow (set := i) (keys := pk) (asF := pa) (found := pf) (turns := pt) (pl := pp) (gens := fg) (gk := gk) hn (by omega) (fun j hj hb => by
      have hjm : j < m := by
        have h3 : ¬ m ≤ j := fun q => by
          have := Nat.testBit_lt_two_pow (x := i) (i := j) (Nat.lt_of_lt_of_le hi2 (Nat.pow_le_pow_right (by decide) q))
          rw [this] at hb
          cases hb
        omega
      exact ⟨hfg j hjm, hg j hjm⟩)).1 _ (by rw [sel_4 hm hi2]; exact h1)
    obtain ⟨hAK, -, rfl, rfl⟩ := hV
    have e2 := e_allSo_L (z := z) (asF := a') (turns := nI (((gen n (sel i gk m 0)).getD []).countP (fun K => decide (K % 2 = 0)))) (sp := sp) hn hk hc h2 hAK hS c 0 q_fu (by omega) (fu_lt (by omega)) hct
    have e3 : (f_X9_allIsAsSeen (nI i) (nI n) fg (nI c) s1 s2 si pk pa pf pt pp) = some (if fit i = true then 1 else 0, k', a', nI ((gen n (sel i gk m 0)).getD []).length, nI (((gen n (sel i gk m 0)).getD []).countP (fun K => decide (K % 2 = 0))), nI n) := by
      unfold f_X9_allIsAsSeen
      rw [e1, ob_some, hfit i hi2, allb_and, hct, Bool.true_and]
      exact e2
    rw [f_X9_fits_L37, if_neg (show ¬ (1 : Int32) = 0 by decide), if_neg (nI_ge (by omega) (by omega)), e3, ob_some, cnf, mif]
    by_cases h : fit i = true
    · rw [if_pos h, if_neg (show ¬ (1 : Int32) = 0 by decide), if_pos h, if_pos h, nI_1, nI_1]
      by_cases ha : acc = 0
      · subst ha
        rw [if_pos (show nI 0 = (0 : Int32) from rfl), if_pos rfl]
        obtain ⟨x, p1, p2, p3, p4, p5, e⟩ := e_fits_L (l1 := l1) hn hk hm hc hg hfg hB hS hct K fit hfit d (i + 1) fu (0 + 1) (nI i) k' a' (nI ((gen n (sel i gk m 0)).getD []).length) (nI (((gen n (sel i gk m 0)).getD []).countP (fun K => decide (K % 2 = 0)))) (nI n) (by omega) (by omega) (by omega) (fun q => by omega)
        rw [if_neg (by omega)] at e
        rw [← Nat.add_assoc]
        exact ⟨x, p1, p2, p3, p4, p5, e⟩
      · rw [if_neg (show ¬ nI acc = (0 : Int32) from fun q => ha (nI_inj (a := acc) (b := 0) (by omega) (by omega) q)), if_neg ha]
        obtain ⟨x, p1, p2, p3, p4, p5, e⟩ := e_fits_L (l1 := l1) hn hk hm hc hg hfg hB hS hct K fit hfit d (i + 1) fu (acc + 1) l3 k' a' (nI ((gen n (sel i gk m 0)).getD []).length) (nI (((gen n (sel i gk m 0)).getD []).countP (fun K => decide (K % 2 = 0)))) (nI n) (by omega) (by omega) (by omega) (fun q => by omega)
        rw [if_neg (by omega)] at e
        rw [← Nat.add_assoc]
        exact ⟨x, p1, p2, p3, p4, p5, e⟩
    · rw [if_neg h, if_pos rfl, if_neg h, if_neg h, Nat.zero_add, nI_1]
      exact e_fits_L (l1 := l1) hn hk hm hc hg hfg hB hS hct K fit hfit d (i + 1) fu acc l3 k' a' (nI ((gen n (sel i gk m 0)).getD []).length) (nI (((gen n (sel i gk m 0)).getD []).countP (fun K => decide (K % 2 = 0)))) (nI n) (by omega) (by omega) (by omega) hl
theorem cnf_none {f : Nat → Bool} : ∀ d i, (∀ j, i ≤ j → j < i + d → f j = false) → cnf f d i = 0 ∧ mif f d i = -5
  | 0, _, _ => ⟨rfl, rfl⟩
  | d + 1, i, h => by
    obtain ⟨h1, h2⟩ := cnf_none d (i + 1) (fun j a b => h j (by omega) (by omega))
    have h0 := h i (Nat.le_refl _) (by omega)
    rw [cnf, mif, h0, if_neg (by decide), if_neg (by decide), h1, h2]
    exact ⟨rfl, rfl⟩
theorem op_fits : OP_fits RR := by
  intro x_hasImage f_places f_kinds f_weights f_howManyGenerators f_generators f_racks f_howManySeen f_seenFirst f_seenSecond f_seenIs f_seenPlaces f_howManyEvents f_eventWhat f_eventNumber g_places g_kinds g_weights g_howManyGenerators g_generators g_racks g_howManySeen g_seenFirst g_seenSecond g_seenIs g_seenPlaces g_howManyEvents g_eventWhat g_eventNumber v_keys v_asFound v_found v_turns v_places p_keys p_asFound p_found p_turns p_places i_sort i_howOften i_sorts i_moves n_u u_leasts u_howMany u_known n_w w_leasts w_howMany w_known t_signs t_length t_whole t_begins t_ends r_sorts r_numbers r_length sr ln it z_thrown z_s z_kept z_isKept z_moveMany z_moves z_hands z_troubles z_troubleSorts z_troubleNumbers z_asked z_paint z_leasts z_isSeen z_classMany z_types z_typeCounts z_typeMany z_text z_signs z_at z_lacks z_clauses z_begun z_letters z_firsts z_seconds z_aside z_sorts z_sizes z_items hR p1
  obtain ⟨n, k, m, gk, w, B, hF, hV, hI, hu, hw, ht, hr, hs⟩ := hR
  have hF' := hF
  obtain ⟨hb, ⟨rfl, rfl, rfl⟩, ⟨hz0, hz1, hz2⟩, hw4, hG, hK, hS, hE⟩ := hF
  have hV' := hV
  obtain ⟨hB, ⟨hKy, hAs, rfl, rfl⟩, rfl⟩ := hV
  have hm4 := hb.2.2.2.2
  have h2n := hb.1
  have h6 := hb.2.1
  have hk1 := hb.2.2.1
  have hk4 := hb.2.2.2.1
  have hKS := KS_of hb hG hB
  have hl := hKS.2
  have hL := srt_len B
  have hpos : 0 < B.length := List.length_pos_of_mem hKS.1.2.2.1
  obtain ⟨mv', hd', hM, e1⟩ := r_moves_ (mv := z_moves) (hd := z_hands) (mm := z_moveMany) hb.2.1 hm4 (ZG_of hz0 hz2 hG) (fun i hi => (hG i hi).1) hB
  have ein : f_X10_in (p1.toInt64) 0 1 = some (if (0 : Int32) ≤ p1 ∧ p1 ≤ 1 then 1 else 0) := r_inN (by decide) (by decide)
  by_cases hby : (0 : Int32) ≤ p1 ∧ p1 ≤ 1
  · have hS' := hS
    obtain ⟨c, hc5, hfs, hz3, hSj⟩ := hS
    subst hfs
    have hm2 : 2 ^ m ≤ 2 ^ 4 := Nat.pow_le_pow_right (by decide) hm4
    have hm0 : 0 < 2 ^ m := Nat.pow_pos (by decide)
    let fit : Nat → Bool := fun s => allb (fun j => ctb n k (f_seenFirst j) (f_seenSecond j) (f_seenPlaces j) && dso n ((gen n (sel s gk m 0)).getD []) (f_seenFirst j) (f_seenSecond j) (f_seenIs j)) c 0
    obtain ⟨x, mm2, mv2, hd2, pa2, eR⟩ := r_fits_L (l1 := p1) (by omega) h6 hk1 hk4 hm4 (ZG_of hz0 hz2 hG) hz1 hz3 hc5 (fun i hi => (hG i hi).1) hB hSj (fun l2_4 l3_4 l4_4 z_moveMany_4 z_moves_4 z_hands_4 z_paint_4 => if p1 = 0 then (some (l2_4, z_moveMany_4, z_moves_4, z_hands_4, z_paint_4)) else (some (l3_4, z_moveMany_4, z_moves_4, z_hands_4, z_paint_4))) fit (fun s _ => rfl) (2 ^ m) q_fu z_moveMany z_moves z_hands z_paint (Nat.le_refl _) (fu_lt (by omega))
    rw [Nat.sub_self] at eR
    have eM : f_X10_fits p1 z_s z_moveMany z_moves z_hands z_paint = some (if p1 = 0 then nI (cnf fit (2 ^ m) 0) else mif fit (2 ^ m) 0, mm2, mv2, hd2, pa2) := by
      unfold f_X10_fits
      rw [ein, ob_some, if_pos hby, if_neg (show ¬ (1 : Int32) = 0 by decide), r_all hm4 hz2, ob_some, ← nI_dec hm0]
      refine Eq.trans eR ?_
      split <;> rfl
    have eb : (1 : Int32) <<< (nI m &&& 31) = nI (2 ^ m) := e_bit (by omega)
    have e2 : f_X3_allSeenCount (nI n) (nI k) (nI c) f_seenFirst f_seenSecond f_seenPlaces = some (if allb (fun j => ctb n k (f_seenFirst j) (f_seenSecond j) (f_seenPlaces j)) c 0 = true then 1 else 0) := e_cnt_L (si := f_seenIs) h6 hk4 hc5 hSj c 0 q_fu (by omega) (fu_lt (by omega))
    by_cases hct : allb (fun j => ctb n k (f_seenFirst j) (f_seenSecond j) (f_seenPlaces j)) c 0 = true
    · obtain ⟨x', q1, q2, q3, q4, q5, eC⟩ := e_fits_L (l1 := p1) h6 hk4 hm4 hc5 (fun i hi => (hG i hi).1) (fun i hi => (hG i hi).2.1) hB hSj hct (fun l2_4 l3_4 l6_4 p_keys_4 p_asFound_4 p_found_4 p_turns_4 p_places_4 => if p1 = 0 then (some (l2_4, p_keys_4, p_asFound_4, p_found_4, p_turns_4, p_places_4)) else (some (l3_4, p_keys_4, p_asFound_4, p_found_4, p_turns_4, p_places_4))) fit (fun s _ => rfl) (2 ^ m) 0 q_fu 0 (-5) p_keys p_asFound p_found p_turns p_places (by omega) (fu_lt (by omega)) (Nat.le_refl _) (fun _ => rfl)
      refine ⟨_, eM, (if p1 = 0 then nI (cnf fit (2 ^ m) 0) else mif fit (2 ^ m) 0, q1, q2, q3, q4, q5), ?_, rfl, RR_mk hF' hV' hI hu hw ht hr hs⟩
      unfold f_X9_fits
      rw [e_flag, ob_some, if_pos hby, if_neg (show ¬ (1 : Int32) = 0 by decide), e2, ob_some, if_pos hct, eb]
      rw [Nat.zero_add, if_pos rfl] at eC
      refine Eq.trans eC ?_
      split <;> rfl
    · have hno : ∀ j, 0 ≤ j → j < 0 + 2 ^ m → fit j = false := fun j _ _ => by
        show allb (fun i => ctb n k (f_seenFirst i) (f_seenSecond i) (f_seenPlaces i) && dso n ((gen n (sel j gk m 0)).getD []) (f_seenFirst i) (f_seenSecond i) (f_seenIs i)) c 0 = false
        rw [allb_and, Bool.eq_false_iff.mpr hct, Bool.false_and]
      obtain ⟨n1, n2⟩ := cnf_none (2 ^ m) 0 hno
      refine ⟨_, eM, (if p1 = 0 then nI (cnf fit (2 ^ m) 0) else mif fit (2 ^ m) 0, p_keys, p_asFound, p_found, p_turns, p_places), ?_, rfl, RR_mk hF' hV' hI hu hw ht hr hs⟩
      unfold f_X9_fits
      rw [e_flag, ob_some, if_pos hby, if_neg (show ¬ (1 : Int32) = 0 by decide), e2, ob_some, if_neg hct, n1, n2]
      show f_X9_fits_L37 _ _ 0 _ _ _ _ _ _ _ (5999 + 1) _ _ _ _ _ _ _ _ = _
      rw [f_X9_fits_L37, if_pos rfl]
      split <;> rfl
  · refine ⟨(-1, z_moveMany, z_moves, z_hands, z_paint), ?_, (-1, p_keys, p_asFound, p_found, p_turns, p_places), ?_, rfl, RR_mk hF' hV' hI hu hw ht hr hs⟩
    · unfold f_X10_fits
      rw [ein, ob_some, if_neg hby, if_pos rfl]
    · unfold f_X9_fits
      rw [e_flag, ob_some, if_neg hby, if_pos rfl]
