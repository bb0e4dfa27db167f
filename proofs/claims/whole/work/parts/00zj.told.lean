-- ===== the steps: told, rack =====
theorem r_pairs_L {z mv hd le : Nat → Int32} {n k : Nat} {B L : List Nat} {f : Nat → Bool} (hn : n ≤ 6) (hk1 : 1 ≤ k) (hk : k ≤ 4) (hz : z 0 = nI n) (hz1 : z 1 = nI k) (hB : KS B n) (hM : MA mv hd n (srt B)) (hL : ∀ P ∈ L, Pt n k P) (hf : ∀ P ∈ L, f P = true ↔ hnd n P B) (hA : AKi le n k L) (hl : L.length ≤ 4096) (K : Int32 → Int32 → (Nat → Int32) → Option (Int32 × Int32 × (Nat → Int32) × (Nat → Int32) × (Nat → Int32) × (Nat → Int32) × (Nat → Int32) × Int32)) : ∀ d i fu c pa, i + d = L.length → d < fu → ∃ pa', f_X10_pairs_L9 z (nI B.length) mv hd le (nI L.length) K fu (nI c) (nI i) pa = K (nI (c + (L.drop i).countP f)) (nI L.length) pa'
  | d, i, 0, _, _, _, h => by omega
  | 0, i, fu + 1, c, pa, hi, _ => by
    rw [f_X10_pairs_L9, if_pos (nI_le (by omega) (by omega)), List.drop_eq_nil_of_le (by omega), show i = L.length by omega]
    exact ⟨pa, rfl⟩
  | d + 1, i, fu + 1, c, pa, hi, hfu => by
    have hiL : i < L.length := by omega
    have hP := hL _ (getD_mem hiL)
    have hfP := hf _ (getD_mem hiL)
    obtain ⟨pa1, g1, g2⟩ := r_isHanded (pa := pa) hn hk1 hk hz hz1 hB hM hP
    rw [f_X10_pairs_L9, if_neg (nI_ge (by omega) (by omega)), qe_rd _ (by omega) (by decide), ob_some, hA i hiL, nI_1, nI_1, show ∀ v : Int32, v + 0 = v from Int32.add_zero, drop_cons hiL, List.countP_cons]
    by_cases h : f (L.getD i 0) = true
    · obtain ⟨pa', e2⟩ := r_pairs_L hn hk1 hk hz hz1 hB hM hL hf hA hl K d (i + 1) fu (c + 1) pa1 (by omega) (by omega)
      refine ⟨pa', ?_⟩
      rw [g1 (hfP.mp h), ob_some, if_neg (show ¬ (1 : Int32) = 0 by decide), e2, if_pos h]
      congr 2
      omega
    · obtain ⟨pa', e2⟩ := r_pairs_L hn hk1 hk hz hz1 hB hM hL hf hA hl K d (i + 1) fu c pa1 (by omega) (by omega)
      refine ⟨pa', ?_⟩
      rw [g2 (fun q => h (hfP.mpr q)), ob_some, if_pos rfl, e2, if_neg h]
      rfl
/-- pairs, counted: classes by 0 less classes by 1 -/
theorem r_pairs {z mv hd pa le se : Nat → Int32} {mm cm : Int32} {n k m : Nat} {gk : Nat → Nat} {B : List Nat} (hn : n ≤ 6) (hk1 : 1 ≤ k) (hk : k ≤ 4) (hm : m ≤ 4) (hZ : ZG z n m gk) (hz1 : z 1 = nI k) (hg : ∀ i, i < m → Mv n (gk i)) (hB : gen n (sel (2 ^ m - 1) gk m 0) = some B) (hK : KS B n) :
    ∃ mv' hd' pa' le' se' cm', (LQ n k (BY 1 B) (k ^ n)).length ≤ (LQ n k (BY 0 B) (k ^ n)).length ∧ f_X10_pairs z mm mv hd pa le se cm = some (nI ((LQ n k (BY 0 B) (k ^ n)).length - (LQ n k (BY 1 B) (k ^ n)).length), nI B.length, mv', hd', pa', le', se', cm') := by
  unfold f_X10_pairs
  have h4 := pow_4096 hn hk
  have hLl := LQ_len n k (BY 0 B) (k ^ n)
  obtain ⟨mv', hd', pa', le', se', hM, h1, e⟩ := r_allClasses (mv := mv) (hd := hd) (mm := mm) (pa := pa) (le := le) (se := se) (cm := cm) (b := 0) hn hk1 hk hm hZ hz1 hg hB (by omega) hK
  rw [show f_X10_allClasses 0 z mm mv hd pa le se cm = _ from e, ob_some]
  have hkey : ∃ f : Nat → Bool, ∃ a, (∀ P ∈ LQ n k (BY 0 B) (k ^ n), f P = true ↔ hnd n P B) ∧ (LQ n k (BY 0 B) (k ^ n)).countP f = 2 * a ∧ (LQ n k (BY 0 B) (k ^ n)).length = (LQ n k (BY 1 B) (k ^ n)).length + a := by
    rw [LQ_all, LQ_all]
    by_cases hmm : ∃ q ∈ B, q % 2 = 1
    · obtain ⟨q, hq, hq2⟩ := hmm
      obtain ⟨a, g1, g2⟩ := pairs_of hn (show k ≤ 8 by omega) hK.1 hq hq2 (XX_nodup hn hk1 (show k ≤ 8 by omega)) (fun P => XX_mem hn hk1 (by omega))
      refine ⟨fun P => decide (oth n q P B ≠ lst n P (B0 B)), a, fun P hP => ?_, g2, g1⟩
      have hPt := LQ_Pt hn hk1 hk hP
      rw [decide_eq_true_eq]
      constructor
      · intro h
        exact ⟨q, hq, hq2, h⟩
      · rintro ⟨q', hq', hq2', h⟩
        rwa [oth_any hn (show k ≤ 8 by omega) hK.1 hq' hq2' hq hq2 hPt] at h
    · refine ⟨fun _ => false, 0, fun P _ => ⟨fun h => (by cases h), fun ⟨q, hq, hq2, _⟩ => absurd ⟨q, hq, hq2⟩ hmm⟩, by simp, ?_⟩
      have : B0 B = B := by
        unfold B0
        rw [List.filter_eq_self]
        intro q hq
        rcases Nat.mod_two_eq_zero_or_one q with e | e
        · exact decide_eq_true e
        · exact absurd ⟨q, hq, e⟩ hmm
      show List.countP (fun P => decide (lst n P (B0 B) = P)) _ = List.countP (fun P => decide (lst n P B = P)) _ + 0
      rw [this, Nat.add_zero]
  obtain ⟨f, a, hf, hc, hlen⟩ := hkey
  obtain ⟨pa2, e2⟩ := r_pairs_L hn hk1 hk hZ.1 hz1 hK hM (fun P hP => LQ_Pt hn hk1 hk hP) hf h1 (by omega) (fun l1_2 _ z_paint_2 => (q_dv l1_2 2).bind fun t3 => some (t3, nI B.length, mv', hd', z_paint_2, le', se', nI (LQ n k (BY 0 B) (k ^ n)).length)) (LQ n k (BY 0 B) (k ^ n)).length 0 q_fu 0 pa' (by omega) (fu_lt (by omega))
  refine ⟨mv', hd', pa2, le', se', nI (LQ n k (BY 0 B) (k ^ n)).length, by omega, e2.trans ?_⟩
  show (q_dv (nI (0 + _)) 2).bind _ = _
  rw [List.drop_zero, Nat.zero_add, hc, li_2, qe_dv (by omega) (by decide) (by decide), ob_some, show 2 * a / 2 = a by omega, hlen, Nat.add_sub_cancel_left]
theorem op_told : OP_told RR := by
  intro x_hasImage f_places f_kinds f_weights f_howManyGenerators f_generators f_racks f_howManySeen f_seenFirst f_seenSecond f_seenIs f_seenPlaces f_howManyEvents f_eventWhat f_eventNumber g_places g_kinds g_weights g_howManyGenerators g_generators g_racks g_howManySeen g_seenFirst g_seenSecond g_seenIs g_seenPlaces g_howManyEvents g_eventWhat g_eventNumber v_keys v_asFound v_found v_turns v_places p_keys p_asFound p_found p_turns p_places i_sort i_howOften i_sorts i_moves n_u u_leasts u_howMany u_known n_w w_leasts w_howMany w_known t_signs t_length t_whole t_begins t_ends r_sorts r_numbers r_length sr ln it z_thrown z_s z_kept z_isKept z_moveMany z_moves z_hands z_troubles z_troubleSorts z_troubleNumbers z_asked z_paint z_leasts z_isSeen z_classMany z_types z_typeCounts z_typeMany z_text z_signs z_at z_lacks z_clauses z_begun z_letters z_firsts z_seconds z_aside z_sorts z_sizes z_items hR p1
  obtain ⟨n, k, m, gk, w, B, hF, hV, hI, hu, hw, ht, hr, hs⟩ := hR
  have hF' := hF
  obtain ⟨hb, ⟨rfl, rfl, rfl⟩, ⟨hz0, hz1, hz2⟩, hw4, hG, hK, hS, hE⟩ := hF
  have hV' := hV
  obtain ⟨hB, ⟨hKy, hAs, rfl, rfl⟩, rfl⟩ := hV
  have hm4 := hb.2.2.2.2
  have h2n := hb.1
  have h6 := hb.2.1
  have hk1 := hb.2.2.1
  have hk4 := hb.2.2.2.1
  have hKS := KS_of hb hG hB
  have hl := hKS.2
  have hL := srt_len B
  have hpos : 0 < B.length := List.length_pos_of_mem hKS.1.2.2.1
  obtain ⟨mv', hd', hM, e1⟩ := r_moves_ (mv := z_moves) (hd := z_hands) (mm := z_moveMany) hb.2.1 hm4 (ZG_of hz0 hz2 hG) (fun i hi => (hG i hi).1) hB
  have hZ := ZG_of hz0 hz2 hG
  have hgM : ∀ i, i < m → Mv n (gk i) := fun i hi => (hG i hi).1
  have hrf : ∀ {r : Option (Int32 × Int32 × (Nat → Int32) × (Nat → Int32) × (Nat → Int32) × (Nat → Int32) × (Nat → Int32) × Int32)}, (if p1 = 0 then ((q_rd z_s 82 0).bind fun t3 => some (t3, nI B.length, mv', hd', z_paint, z_leasts, z_isSeen, z_classMany)) else (if p1 = 1 then ((q_rd z_s 82 1).bind fun t5 => some (t5, nI B.length, mv', hd', z_paint, z_leasts, z_isSeen, z_classMany)) else (if p1 = 2 then ((q_rd z_s 82 2).bind fun t7 => some (t7, nI B.length, mv', hd', z_paint, z_leasts, z_isSeen, z_classMany)) else (if p1 = 3 then (some (nI B.length, nI B.length, mv', hd', z_paint, z_leasts, z_isSeen, z_classMany)) else (if p1 = 4 then ((f_X10_manyOf 0 (nI B.length) hd').bind fun t10 => some (t10, nI B.length, mv', hd', z_paint, z_leasts, z_isSeen, z_classMany)) else (if p1 = 5 then ((f_X10_paintings z_s).bind fun t12 => some (t12, nI B.length, mv', hd', z_paint, z_leasts, z_isSeen, z_classMany)) else (if p1 = 6 then ((f_X10_classesBy 0 z_s (nI B.length) mv' hd' z_paint z_leasts z_isSeen z_classMany).bind fun t14 => some (t14.1, t14.2.1, t14.2.2.1, t14.2.2.2.1, t14.2.2.2.2.1, t14.2.2.2.2.2.1, t14.2.2.2.2.2.2.1, t14.2.2.2.2.2.2.2)) else (if p1 = 7 then ((f_X10_classesBy 1 z_s (nI B.length) mv' hd' z_paint z_leasts z_isSeen z_classMany).bind fun t16 => some (t16.1, t16.2.1, t16.2.2.1, t16.2.2.2.1, t16.2.2.2.2.1, t16.2.2.2.2.2.1, t16.2.2.2.2.2.2.1, t16.2.2.2.2.2.2.2)) else (if p1 = 8 then ((f_X10_pairs z_s (nI B.length) mv' hd' z_paint z_leasts z_isSeen z_classMany).bind fun t18 => some (t18.1, t18.2.1, t18.2.2.1, t18.2.2.2.1, t18.2.2.2.2.1, t18.2.2.2.2.2.1, t18.2.2.2.2.2.2.1, t18.2.2.2.2.2.2.2)) else (some ((-1), nI B.length, mv', hd', z_paint, z_leasts, z_isSeen, z_classMany))))))))))) = r → f_X10_told p1 z_s z_moveMany z_moves z_hands z_paint z_leasts z_isSeen z_classMany = r := by
    intro r h
    unfold f_X10_told
    rw [e1, ob_some]
    first | exact h | (simp only [] at h ⊢; exact h)
  obtain ⟨so0, of0, ss0, mo0, ec0⟩ := e_howManyClasses (so := i_sort) (of_ := i_howOften) (ss := i_sorts) (mo := i_moves) (b := 0) h2n h6 hk1 hk4 (by omega) hKS hKy
  obtain ⟨so1, of1, ss1, mo1, ec1⟩ := e_howManyClasses (so := i_sort) (of_ := i_howOften) (ss := i_sorts) (mo := i_moves) (b := 1) h2n h6 hk1 hk4 (by omega) hKS hKy
  obtain ⟨so2, of2, ss2, mo2, ec2⟩ := e_howManyClasses (so := so0) (of_ := of0) (ss := ss0) (mo := mo0) (b := 1) h2n h6 hk1 hk4 (by omega) hKS hKy
  obtain ⟨mv3, hd3, pa3, le3, se3, cm3, er0⟩ := r_classesBy (mv := mv') (hd := hd') (mm := nI B.length) (pa := z_paint) (le := z_leasts) (se := z_isSeen) (cm := z_classMany) (b := 0) h6 hk1 hk4 hm4 hZ hz1 hgM hB (by omega) hKS
  obtain ⟨mv4, hd4, pa4, le4, se4, cm4, er1⟩ := r_classesBy (mv := mv') (hd := hd') (mm := nI B.length) (pa := z_paint) (le := z_leasts) (se := z_isSeen) (cm := z_classMany) (b := 1) h6 hk1 hk4 hm4 hZ hz1 hgM hB (by omega) hKS
  obtain ⟨mv5, hd5, pa5, le5, se5, cm5, hle, er2⟩ := r_pairs (mv := mv') (hd := hd') (mm := nI B.length) (pa := z_paint) (le := z_leasts) (se := z_isSeen) (cm := z_classMany) h6 hk1 hk4 hm4 hZ hz1 hgM hB hKS
  by_cases c0 : p1 = 0
  · refine ⟨(nI n, nI B.length, mv', hd', z_paint, z_leasts, z_isSeen, z_classMany), hrf ?_, (nI n, i_sort, i_howOften, i_sorts, i_moves), ?_, rfl, RR_mk hF' hV' hI hu hw ht hr hs⟩
    · rw [if_pos c0, rd0 hz0, ob_some]
    · unfold f_X9_told; rw [if_pos c0]
  by_cases c1 : p1 = 1
  · refine ⟨(nI k, nI B.length, mv', hd', z_paint, z_leasts, z_isSeen, z_classMany), hrf ?_, (nI k, i_sort, i_howOften, i_sorts, i_moves), ?_, rfl, RR_mk hF' hV' hI hu hw ht hr hs⟩
    · rw [if_neg c0, if_pos c1, rd1 hz1, ob_some]
    · unfold f_X9_told; rw [if_neg c0, if_pos c1]
  by_cases c2 : p1 = 2
  · refine ⟨(nI m, nI B.length, mv', hd', z_paint, z_leasts, z_isSeen, z_classMany), hrf ?_, (nI m, i_sort, i_howOften, i_sorts, i_moves), ?_, rfl, RR_mk hF' hV' hI hu hw ht hr hs⟩
    · rw [if_neg c0, if_neg c1, if_pos c2, rd2 hz2, ob_some]
    · unfold f_X9_told; rw [if_neg c0, if_neg c1, if_pos c2]
  by_cases c3 : p1 = 3
  · refine ⟨(nI B.length, nI B.length, mv', hd', z_paint, z_leasts, z_isSeen, z_classMany), hrf ?_, (nI B.length, i_sort, i_howOften, i_sorts, i_moves), ?_, rfl, RR_mk hF' hV' hI hu hw ht hr hs⟩
    · rw [if_neg c0, if_neg c1, if_neg c2, if_pos c3]
    · unfold f_X9_told; rw [if_neg c0, if_neg c1, if_neg c2, if_pos c3]
  by_cases c4 : p1 = 4
  · refine ⟨(nI (BY 0 B).length, nI B.length, mv', hd', z_paint, z_leasts, z_isSeen, z_classMany), hrf ?_, (nI (B.countP (fun K => decide (K % 2 = 0))), i_sort, i_howOften, i_sorts, i_moves), ?_, by rw [cnt_even]; rfl, RR_mk hF' hV' hI hu hw ht hr hs⟩
    · rw [if_neg c0, if_neg c1, if_neg c2, if_neg c3, if_pos c4, show f_X10_manyOf 0 (nI B.length) hd' = _ from r_manyOf (b := 0) (by omega) hl hM, ob_some]
    · unfold f_X9_told; rw [if_neg c0, if_neg c1, if_neg c2, if_neg c3, if_pos c4]
  by_cases c5 : p1 = 5
  · refine ⟨(nI (k ^ n), nI B.length, mv', hd', z_paint, z_leasts, z_isSeen, z_classMany), hrf ?_, (nI (k ^ n), i_sort, i_howOften, i_sorts, i_moves), ?_, rfl, RR_mk hF' hV' hI hu hw ht hr hs⟩
    · rw [if_neg c0, if_neg c1, if_neg c2, if_neg c3, if_neg c4, if_pos c5, r_paintings h6 hz0 hz1, ob_some]
    · unfold f_X9_told; rw [if_neg c0, if_neg c1, if_neg c2, if_neg c3, if_neg c4, if_pos c5, e_paintings h6, ob_some]
  by_cases c6 : p1 = 6
  · refine ⟨(nI (LQ n k (BY 0 B) (k ^ n)).length, nI B.length, mv3, hd3, pa3, le3, se3, cm3), hrf ?_, (nI (LQ n k (BY 0 B) (k ^ n)).length, so0, of0, ss0, mo0), ?_, rfl, RR_mk hF' hV' hI hu hw ht hr hs⟩
    · rw [if_neg c0, if_neg c1, if_neg c2, if_neg c3, if_neg c4, if_neg c5, if_pos c6, show f_X10_classesBy 0 z_s (nI B.length) mv' hd' z_paint z_leasts z_isSeen z_classMany = _ from er0, ob_some]
    · unfold f_X9_told; rw [if_neg c0, if_neg c1, if_neg c2, if_neg c3, if_neg c4, if_neg c5, if_pos c6, show f_X9_howManyClasses 0 (nI k) v_keys (nI B.length) (nI (B.countP (fun K => decide (K % 2 = 0)))) (nI n) i_sort i_howOften i_sorts i_moves = _ from ec0, ob_some]
  by_cases c7 : p1 = 7
  · refine ⟨(nI (LQ n k (BY 1 B) (k ^ n)).length, nI B.length, mv4, hd4, pa4, le4, se4, cm4), hrf ?_, (nI (LQ n k (BY 1 B) (k ^ n)).length, so1, of1, ss1, mo1), ?_, rfl, RR_mk hF' hV' hI hu hw ht hr hs⟩
    · rw [if_neg c0, if_neg c1, if_neg c2, if_neg c3, if_neg c4, if_neg c5, if_neg c6, if_pos c7, show f_X10_classesBy 1 z_s (nI B.length) mv' hd' z_paint z_leasts z_isSeen z_classMany = _ from er1, ob_some]
    · unfold f_X9_told; rw [if_neg c0, if_neg c1, if_neg c2, if_neg c3, if_neg c4, if_neg c5, if_neg c6, if_pos c7, show f_X9_howManyClasses 1 (nI k) v_keys (nI B.length) (nI (B.countP (fun K => decide (K % 2 = 0)))) (nI n) i_sort i_howOften i_sorts i_moves = _ from ec1, ob_some]
  by_cases c8 : p1 = 8
  · refine ⟨(nI ((LQ n k (BY 0 B) (k ^ n)).length - (LQ n k (BY 1 B) (k ^ n)).length), nI B.length, mv5, hd5, pa5, le5, se5, cm5), hrf ?_, (nI ((LQ n k (BY 0 B) (k ^ n)).length - (LQ n k (BY 1 B) (k ^ n)).length), so2, of2, ss2, mo2), ?_, rfl, RR_mk hF' hV' hI hu hw ht hr hs⟩
    · rw [if_neg c0, if_neg c1, if_neg c2, if_neg c3, if_neg c4, if_neg c5, if_neg c6, if_neg c7, if_pos c8, er2, ob_some]
    · unfold f_X9_told; rw [if_neg c0, if_neg c1, if_neg c2, if_neg c3, if_neg c4, if_neg c5, if_neg c6, if_neg c7, if_pos c8, show f_X9_howManyClasses 0 (nI k) v_keys (nI B.length) (nI (B.countP (fun K => decide (K % 2 = 0)))) (nI n) i_sort i_howOften i_sorts i_moves = _ from ec0, ob_some, show f_X9_howManyClasses 1 (nI k) v_keys (nI B.length) (nI (B.countP (fun K => decide (K % 2 = 0)))) (nI n) so0 of0 ss0 mo0 = _ from ec2, ob_some, nI_sub hle]
  · refine ⟨(-1, nI B.length, mv', hd', z_paint, z_leasts, z_isSeen, z_classMany), hrf ?_, (-1, i_sort, i_howOften, i_sorts, i_moves), ?_, rfl, RR_mk hF' hV' hI hu hw ht hr hs⟩
    · rw [if_neg c0, if_neg c1, if_neg c2, if_neg c3, if_neg c4, if_neg c5, if_neg c6, if_neg c7, if_neg c8]
    · unfold f_X9_told; rw [if_neg c0, if_neg c1, if_neg c2, if_neg c3, if_neg c4, if_neg c5, if_neg c6, if_neg c7, if_neg c8]
-- what comes of a rack
theorem r_p0_L {a1 a2 : Int32} (K : Int32 → (Nat → Int32) → Option (Int32 × Int32 × (Nat → Int32) × (Nat → Int32))) : ∀ d i fu mv, i + d = 6 → d < fu → (∀ p, p < i → mv p = nI p) → ∃ mv', (∀ p, p < 6 → mv' p = nI p) ∧ f_X10_product_L7 a1 a2 K fu (nI i) mv = K (nI 6) mv'
  | d, i, 0, _, _, h, _ => by omega
  | 0, i, fu + 1, mv, hi, _, h => by
    rw [f_X10_product_L7, li_6, if_pos (nI_le (by omega) (by omega)), show i = 6 by omega]
    exact ⟨mv, fun p hp => h p (by omega), rfl⟩
  | d + 1, i, fu + 1, mv, hi, hfu, h => by
    rw [f_X10_product_L7, li_6, if_neg (nI_ge (by omega) (by omega)), qe_wt _ _ (by omega) (by decide), ob_some, nI_1]
    refine r_p0_L K d (i + 1) fu _ (by omega) (by omega) (fun p hp => ?_)
    rcases Nat.lt_succ_iff_lt_or_eq.mp hp with hp | rfl
    · rw [upd_ne _ (by omega)]; exact h p hp
    · rw [upd_at]
theorem r_pc_L {z : Nat → Int32} {a1 a2 a3 : Int32} {n J : Nat} (hn : n ≤ 6) (hz : z 0 = nI n) (K : Int32 → (Nat → Int32) → Option (Int32 × Int32 × (Nat → Int32) × (Nat → Int32))) : ∀ d i fu mv, i + d = n → d < fu → (∀ p, p < n → mv (6 * 1 + p) = nI (dg (J / 2) p)) → (∀ p, p < i → mv p = nI (dg (J / 2) p)) → ∃ mv', (∀ p, p < n → mv' p = nI (dg (J / 2) p)) ∧ f_X10_product_L80 a1 a2 a3 z K fu (nI i) mv = K (nI n) mv'
  | d, i, 0, _, _, h, _, _ => by omega
  | 0, i, fu + 1, mv, hi, _, _, h => by
    rw [f_X10_product_L80, rd0 hz, ob_some, if_pos (nI_le (by omega) (by omega)), show i = n by omega]
    exact ⟨mv, fun p hp => h p (by omega), rfl⟩
  | d + 1, i, fu + 1, mv, hi, hfu, h1, h => by
    rw [f_X10_product_L80, rd0 hz, ob_some, if_neg (nI_ge (by omega) (by omega)), show f_X10_digit 1 (nI i) mv = _ from r_digit (j := 1) (by omega), ob_some, h1 i (by omega), qe_wt _ _ (by omega) (by decide), ob_some, nI_1]
    refine r_pc_L hn hz K d (i + 1) fu _ (by omega) (by omega) (fun p hp => by rw [upd_ne _ (by omega)]; exact h1 p hp) (fun p hp => ?_)
    rcases Nat.lt_succ_iff_lt_or_eq.mp hp with hp | rfl
    · rw [upd_ne _ (by omega)]; exact h p hp
    · rw [upd_at]
/-- what stands behind, as class and reference go along a rack -/
theorem prod_both {z fr fg : Nat → Int32} {n m r : Nat} {gk : Nat → Nat} {a2 : Int32} (hn : n ≤ 6) (hm : m ≤ 4) (hr : r < 3) (hZ : ZG z n m gk) (hz0 : z 0 = nI n) (hK : FK m fr z) (hG : ∀ g, g < m → Mv n (gk g) ∧ fg g = nI (gk g))
    (K : Int32 → Int32 → (Nat → Int32) → (Nat → Int32) → Option (Int32 × Int32 × (Nat → Int32) × (Nat → Int32))) (K2 : Int32 → Int32 → Option Int32) :
    ∀ d i fu X mm mv hd, i + d = 3 → d < fu → Mv n X → MA mv hd n [X] → ∃ Y mm' mv' hd', Mv n Y ∧ MA mv' hd' n [Y] ∧ f_X10_product_L35 (nI r) a2 z K fu (nI i) mm mv hd = K (nI 3) mm' mv' hd' ∧ f_X9_productOf_L15 (nI r) (nI n) (nI m) fg fr K2 fu (nI X) (nI i) = K2 (nI Y) (nI 3)
  | d, i, 0, _, _, _, _, _, h, _, _ => by omega
  | 0, i, fu + 1, X, mm, mv, hd, hi, _, hX, hA => by
    rw [f_X10_product_L35, f_X9_productOf_L15, li_3, if_pos (nI_le (by omega) (by omega)), if_pos (nI_le (by omega) (by omega)), show i = 3 by omega]
    exact ⟨X, mm, mv, hd, hX, hA, rfl, rfl⟩
  | d + 1, i, fu + 1, X, mm, mv, hd, hi, hfu, hX, hA => by
    rw [f_X10_product_L35, f_X9_productOf_L15, li_3, if_neg (nI_ge (by omega) (by omega)), if_neg (nI_ge (by omega) (by omega)), li_37, nI_mul, nI_mul, nI_add, nI_add, nI_add, qe_rd _ (by omega) (by decide), ob_some, qe_rd _ (by omega) (by decide), ob_some, nI_1]
    rcases hK (3 * r + i) (by omega) with ⟨h1, h2⟩ | ⟨g, hg, h1, h2⟩
    · rw [show 37 + 3 * r + i = 37 + (3 * r + i) by omega, h2, if_pos rfl, Nat.mul_comm r 3, h1, e_isG_no (Or.inl m1_lt), ob_some, if_pos rfl]
      exact prod_both hn hm hr hZ hz0 hK hG K K2 d (i + 1) fu X mm mv hd (by omega) (by omega) hX hA
    · have hgM := (hG g hg).1
      obtain ⟨mv1, hd1, e1, hA1⟩ := r_behind (B := [X]) (k := 0) hn hZ hg hm (by simp) (by simp) hX hgM hA
      have hA1' : MA mv1 hd1 n [X, mu n X (gk g)] := hA1
      obtain ⟨mv2, hm2, e2⟩ := r_pc_L (a1 := nI r) (a2 := a2) (a3 := nI i) (J := mu n X (gk g)) hn hz0 (fun _ z_moves_5 => (q_rd hd1 121 1).bind fun t6 => (q_wt hd1 121 0 t6).bind fun t7 => f_X10_product_L35 (nI r) a2 z K fu (nI (i + 1)) 1 z_moves_5 t7) n 0 q_fu mv1 (by omega) (fu_lt (by omega)) (fun p hp => (hA1' 1 (by simp)).1 p hp) (fun p hp => by omega)
      have hh : hd1 1 = nI (mu n X (gk g) % 2) := (hA1' 1 (by simp)).2
      have hA2 : MA mv2 (upd hd1 0 (hd1 1)) n [mu n X (gk g)] := by
        intro j hj
        have : j = 0 := by simpa using hj
        subst this
        refine ⟨fun p hp => ?_, ?_⟩
        · rw [show 6 * 0 + p = p by omega]; exact hm2 p hp
        · rw [upd_at]; exact hh
      obtain ⟨Y, mm', mv', hd', g1, g2, g3, g4⟩ := prod_both (a2 := a2) hn hm hr hZ hz0 hK hG K K2 d (i + 1) fu (mu n X (gk g)) 1 mv2 (upd hd1 0 (hd1 1)) (by omega) (by omega) (Mv.mu hn hX hgM) hA2
      refine ⟨Y, mm', mv', hd', g1, g2, ?_, ?_⟩
      · rw [show 37 + 3 * r + i = 37 + (3 * r + i) by omega, h2, if_neg (fun q => neg_ne (a := g) (by omega) (by decide) q.symm), show f_X10_goesBehind 0 (nI g) z 1 mv hd = some (mv1, hd1) from e1, ob_some]
        refine Eq.trans e2 ?_
        show (q_rd hd1 121 1).bind _ = _
        rw [show q_rd hd1 121 1 = _ from qe_rd (i := 1) _ (by decide) (by decide), ob_some, show q_wt hd1 121 0 (hd1 1) = _ from qe_wt (i := 0) _ _ (by decide) (by decide), ob_some]
        exact g3
      · rw [Nat.mul_comm r 3, h1, e_isG_yes hm hg, ob_some, if_neg (show ¬ (1 : Int32) = 0 by decide), qe_rd _ (by omega) (by decide), ob_some, (hG g hg).2, e_behind hn hX hgM, ob_some]
        exact g4
theorem op_rack : OP_rack RR := by
  intro x_hasImage f_places f_kinds f_weights f_howManyGenerators f_generators f_racks f_howManySeen f_seenFirst f_seenSecond f_seenIs f_seenPlaces f_howManyEvents f_eventWhat f_eventNumber g_places g_kinds g_weights g_howManyGenerators g_generators g_racks g_howManySeen g_seenFirst g_seenSecond g_seenIs g_seenPlaces g_howManyEvents g_eventWhat g_eventNumber v_keys v_asFound v_found v_turns v_places p_keys p_asFound p_found p_turns p_places i_sort i_howOften i_sorts i_moves n_u u_leasts u_howMany u_known n_w w_leasts w_howMany w_known t_signs t_length t_whole t_begins t_ends r_sorts r_numbers r_length sr ln it z_thrown z_s z_kept z_isKept z_moveMany z_moves z_hands z_troubles z_troubleSorts z_troubleNumbers z_asked z_paint z_leasts z_isSeen z_classMany z_types z_typeCounts z_typeMany z_text z_signs z_at z_lacks z_clauses z_begun z_letters z_firsts z_seconds z_aside z_sorts z_sizes z_items hR p1 p2
  obtain ⟨n, k, m, gk, w, B, hF, hV, hI, hu, hw, ht, hr, hs⟩ := hR
  have hF' := hF
  obtain ⟨hb, ⟨rfl, rfl, rfl⟩, ⟨hz0, hz1, hz2⟩, hw4, hG, hK, hS, hE⟩ := hF
  have hV' := hV
  obtain ⟨hB, ⟨hKy, hAs, rfl, rfl⟩, rfl⟩ := hV
  have hm4 := hb.2.2.2.2
  have h2n := hb.1
  have h6 := hb.2.1
  have hk1 := hb.2.2.1
  have hk4 := hb.2.2.2.1
  have hKS := KS_of hb hG hB
  have hl := hKS.2
  have hL := srt_len B
  have hpos : 0 < B.length := List.length_pos_of_mem hKS.1.2.2.1
  obtain ⟨mv', hd', hM, e1⟩ := r_moves_ (mv := z_moves) (hd := z_hands) (mm := z_moveMany) hb.2.1 hm4 (ZG_of hz0 hz2 hG) (fun i hi => (hG i hi).1) hB
  have ein1 : f_X10_in (p1.toInt64) 0 2 = some (if (0 : Int32) ≤ p1 ∧ p1 ≤ 2 then 1 else 0) := r_inN (by decide) (by decide)
  have ein2 : f_X10_in (p2.toInt64) 0 1 = some (if (0 : Int32) ≤ p2 ∧ p2 ≤ 1 then 1 else 0) := r_inN (by decide) (by decide)
  have ein3 : f_X10_in (p2.toInt64) 10 12 = some (if (10 : Int32) ≤ p2 ∧ p2 ≤ 12 then 1 else 0) := r_inN (by decide) (by decide)
  by_cases hin1 : (0 : Int32) ≤ p1 ∧ p1 ≤ 2
  · obtain ⟨a, -, ha, rfl⟩ := in_nat (l := 0) (h := 2) (by decide) (by decide) hin1
    have c1 : ¬ nI a < 0 := nlt_le.mpr hin1.1
    have c2 : nI a < 3 := by rw [li_3]; exact nI_lt (by omega) (by decide)
    by_cases hin3 : (10 : Int32) ≤ p2 ∧ p2 ≤ 12
    · obtain ⟨b, hb10, hb12, rfl⟩ := in_nat (l := 10) (h := 12) (by decide) (by decide) hin3
      obtain ⟨c, rfl⟩ : ∃ c, b = c + 10 := ⟨b - 10, by omega⟩
      have hnf : ¬ ((0 : Int32) ≤ nI (c + 10) ∧ nI (c + 10) ≤ 1) := fun q => by
        have := (nI_leI (a := c + 10) (b := 1) (by omega) (by decide)).mp q.2
        omega
      refine ⟨(z_s (37 + (3 * a + c)), z_moveMany, z_moves, z_hands), ?_, z_s (37 + (3 * a + c)), ?_, rfl, RR_mk hF' hV' hI hu hw ht hr hs⟩
      · unfold f_X10_rack
        rw [ein1, ob_some, if_pos hin1, if_neg (show ¬ (1 : Int32) = 0 by decide), ein3, ob_some, if_pos hin3, if_neg (show ¬ (1 : Int32) = 0 by decide), li_3, li_37, li_10, nI_mul, nI_add, nI_add, nI_sub (by omega), qe_rd _ (by omega) (by decide), ob_some, show 37 + 3 * a + (c + 10) - 10 = 37 + (3 * a + c) by omega]
      · unfold f_X9_rack
        rw [if_neg c1, if_pos c2, e_flag, ob_some, if_neg hnf, if_pos rfl, li_10, if_neg (nI_nlt (by omega) (by omega)), if_pos (show nI (c + 10) < 13 from nI_lt (a := c + 10) (b := 13) (by omega) (by decide)), li_3, nI_mul, nI_add, nI_sub (by omega), qe_rd _ (by omega) (by decide), ob_some, show a * 3 + (c + 10) - 10 = 3 * a + c by omega, ← FK_told hm4 hK (show 3 * a + c < 9 by omega)]
        split <;> rfl
    · by_cases hin2 : (0 : Int32) ≤ p2 ∧ p2 ≤ 1
      · obtain ⟨mv0, hp0, e0⟩ := r_p0_L (a1 := nI a) (a2 := p2) (fun _ z_moves_1 => (q_wt z_hands 121 0 0).bind fun t2 => f_X10_product_L35 (nI a) p2 z_s (fun _ z_moveMany_3 z_moves_3 z_hands_3 => if p2 = 0 then ((f_X10_numberOf 0 z_s z_moves_3).bind fun t6 => some (t6, z_moveMany_3, z_moves_3, z_hands_3)) else ((q_rd z_hands_3 121 0).bind fun t5 => some (t5, z_moveMany_3, z_moves_3, z_hands_3))) q_fu 0 0 z_moves_1 t2) 6 0 q_fu z_moves (by omega) (fu_lt (by omega)) (fun p hp => by omega)
        obtain ⟨Y, mm', mv1, hd1, hY, hA, g3, g4⟩ := prod_both (a2 := p2) h6 hm4 (show a < 3 by omega) (ZG_of hz0 hz2 hG) hz0 hK (fun g hg => ⟨(hG g hg).1, (hG g hg).2.1⟩) (fun _ z_moveMany_3 z_moves_3 z_hands_3 => if p2 = 0 then ((f_X10_numberOf 0 z_s z_moves_3).bind fun t6 => some (t6, z_moveMany_3, z_moves_3, z_hands_3)) else ((q_rd z_hands_3 121 0).bind fun t5 => some (t5, z_moveMany_3, z_moves_3, z_hands_3))) (fun l2_2 _ => some l2_2) 3 0 q_fu (one n) 0 mv0 (upd z_hands 0 0) (by omega) (fu_lt (by omega)) (Mv.one h6) (MA_one h6 hp0 (upd_at _ _ _))
        have eref : f_X10_rack (nI a) p2 z_s z_moveMany z_moves z_hands = (if p2 = 0 then ((f_X10_numberOf 0 z_s mv1).bind fun t6 => some (t6, mm', mv1, hd1)) else ((q_rd hd1 121 0).bind fun t5 => some (t5, mm', mv1, hd1))) := by
          unfold f_X10_rack f_X10_product
          rw [ein1, ob_some, if_pos hin1, if_neg (show ¬ (1 : Int32) = 0 by decide), ein3, ob_some, if_neg hin3, if_pos rfl, ein2, ob_some, if_pos hin2, if_neg (show ¬ (1 : Int32) = 0 by decide)]
          rw [show ∀ q : Option (Int32 × Int32 × (Nat → Int32) × (Nat → Int32)), (q.bind fun t7 => some (t7.1, t7.2.1, t7.2.2.1, t7.2.2.2)) = q from fun q => by cases q <;> rfl]
          refine Eq.trans e0 ?_
          show (q_wt z_hands 121 0 0).bind _ = _
          rw [show q_wt z_hands 121 0 0 = _ from qe_wt (i := 0) _ _ (by decide) (by decide), ob_some]
          exact g3
        have ecl : f_X9_rack (nI a) p2 (nI n) (nI m) f_generators f_racks = some (if p2 = 0 then nI (num n Y) else if p2 = 1 then nI (Y % 2) else if p2 = 2 then nI (typ n (rwf n (Y / 2))) else -1) := by
          unfold f_X9_rack f_X9_productOf
          rw [if_neg c1, if_pos c2, e_flag, ob_some, if_pos hin2, if_neg (show ¬ (1 : Int32) = 0 by decide), e_unmoved h6, ob_some, show nI (idr n) <<< (1 &&& 31 : Int32) = nI (one n) from by rw [show (1 &&& 31 : Int32) = nI 1 from by decide, nI_shl _ (by decide), one, Nat.mul_comm], show f_X9_productOf_L15 (nI a) (nI n) (nI m) f_generators f_racks (fun l2_2 _ => some l2_2) q_fu (nI (one n)) 0 = _ from g4, ob_some, e_tellMove p2 h2n h6 hY, ob_some]
        rcases flag_01 hin2 with rfl | rfl
        · refine ⟨(nI (num n Y), mm', mv1, hd1), ?_, _, ecl, rfl, RR_mk hF' hV' hI hu hw ht hr hs⟩
          rw [eref, if_pos (show nI 0 = (0 : Int32) from rfl), show f_X10_numberOf 0 z_s mv1 = _ from r_numberOf (j := 0) h6 hz0 (by omega) (hA 0 (by simp)).1, ob_some]
          rfl
        · refine ⟨(nI (Y % 2), mm', mv1, hd1), ?_, _, ecl, rfl, RR_mk hF' hV' hI hu hw ht hr hs⟩
          rw [eref, if_neg (by decide), show q_rd hd1 121 0 = _ from qe_rd (i := 0) _ (by decide) (by decide), ob_some, (hA 0 (by simp)).2]
          rfl
      · refine ⟨(-1, z_moveMany, z_moves, z_hands), ?_, -1, ?_, rfl, RR_mk hF' hV' hI hu hw ht hr hs⟩
        · unfold f_X10_rack
          rw [ein1, ob_some, if_pos hin1, if_neg (show ¬ (1 : Int32) = 0 by decide), ein3, ob_some, if_neg hin3, if_pos rfl, ein2, ob_some, if_neg hin2, if_pos rfl]
        · unfold f_X9_rack
          rw [if_neg c1, if_pos c2, e_flag, ob_some, if_neg hin2, if_pos rfl]
          by_cases d1 : p2 < 10
          · rw [if_pos d1]
          · rw [if_neg d1, if_neg]
            intro q
            apply hin3
            rw [fa_lt, show (10 : Int32).toInt = 10 from by decide] at d1
            rw [fa_lt, show (13 : Int32).toInt = 13 from by decide] at q
            rw [fa_le, fa_le, show (10 : Int32).toInt = 10 from by decide, show (12 : Int32).toInt = 12 from by decide]
            omega
  · refine ⟨(-1, z_moveMany, z_moves, z_hands), ?_, -1, ?_, rfl, RR_mk hF' hV' hI hu hw ht hr hs⟩
    · unfold f_X10_rack
      rw [ein1, ob_some, if_neg hin1, if_pos rfl]
    · unfold f_X9_rack
      by_cases d1 : p1 < 0
      · rw [if_pos d1]
      · rw [if_neg d1, if_neg]
        intro q
        apply hin1
        rw [fa_lt, show (0 : Int32).toInt = 0 from by decide] at d1
        rw [fa_lt, show (3 : Int32).toInt = 3 from by decide] at q
        rw [fa_le, fa_le, show (0 : Int32).toInt = 0 from by decide, show (2 : Int32).toInt = 2 from by decide]
        omega
