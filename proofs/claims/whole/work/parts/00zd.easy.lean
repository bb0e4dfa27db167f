-- ===== the steps: what touches fields alone =====
theorem lt_nle0 {x y : Int32} : x < y ↔ ¬ y ≤ x := by rw [fa_lt, fa_le]; omega
theorem r_in64 (a b c : Int64) : f_X10_in a b c = some (if b ≤ a ∧ a ≤ c then 1 else 0) := by
  unfold f_X10_in
  have h1 : lg_cmp a b < 0 ↔ ¬ b ≤ a := by rw [← lg_cmp_ge a b, lt_nle0]
  have h2 : 0 < lg_cmp a c ↔ ¬ a ≤ c := by rw [← lg_cmp_le a c, lt_nle0]
  by_cases g1 : b ≤ a
  · rw [if_neg (fun q => h1.mp q g1)]
    by_cases g2 : a ≤ c
    · rw [if_neg (fun q => h2.mp q g2), if_pos (show b ≤ a ∧ a ≤ c from ⟨g1, g2⟩)]
    · rw [if_pos (h2.mpr g2), if_neg (fun q : b ≤ a ∧ a ≤ c => g2 q.2)]
  · rw [if_pos (h1.mpr g1), if_neg (fun q : b ≤ a ∧ a ≤ c => g1 q.1)]
theorem r_in (x lo hi : Int32) : f_X10_in x.toInt64 lo.toInt64 hi.toInt64 = some (if lo ≤ x ∧ x ≤ hi then 1 else 0) := by
  rw [r_in64]
  congr 1
  refine if_iff ?_
  rw [fa_wide_le, fa_wide_le]
theorem r_inN {x : Int32} {lo hi : Int64} {l h : Int32} (h1 : lo = l.toInt64) (h2 : hi = h.toInt64) : f_X10_in x.toInt64 lo hi = some (if l ≤ x ∧ x ≤ h then 1 else 0) := by rw [h1, h2, r_in]
/-- within bounds: a number -/
theorem in_nat {x : Int32} {l h : Nat} (hh : h < 2 ^ 31) (hlh : l < 2 ^ 31) (hx : nI l ≤ x ∧ x ≤ nI h) : ∃ v, l ≤ v ∧ v ≤ h ∧ x = nI v := by
  have t := hx.1
  rw [fa_le, nI_toInt hlh] at t
  have hn : ¬ x < 0 := by
    rw [fa_lt, show (0 : Int32).toInt = 0 from by decide]
    omega
  obtain ⟨v, hv, rfl⟩ := nI_of hn
  exact ⟨v, (nI_leI hlh hv).mp hx.1, (nI_leI hv hh).mp hx.2, rfl⟩
theorem lt_nle {x y : Int32} : x < y ↔ ¬ y ≤ x := by rw [fa_lt, fa_le]; omega
theorem nlt_le {x y : Int32} : ¬ x < y ↔ y ≤ x := by rw [fa_lt, fa_le]; omega
-- pieces of a frame in other cells
theorem FG_cong {n m : Nat} {gk : Nat → Nat} {fg z z' : Nat → Int32} (hm : m ≤ 4) (hn : n ≤ 6) (h : FG n m gk fg z) (hz : ∀ x, 9 ≤ x → x < 37 → z' x = z x) : FG n m gk fg z' := by
  intro g hg
  obtain ⟨h1, h2, h3, h4⟩ := h g hg
  exact ⟨h1, h2, fun p hp => by rw [hz _ (by omega) (by omega)]; exact h3 p hp, by rw [hz _ (by omega) (by omega)]; exact h4⟩
theorem FK_cong {m : Nat} {fr z z' : Nat → Int32} (h : FK m fr z) (hz : ∀ x, 37 ≤ x → x < 46 → z' x = z x) : FK m fr z' := by
  intro r hr
  rw [hz _ (by omega) (by omega)]
  exact h r hr
theorem FS_cong {fs : Int32} {s1 s2 si sp z z' : Nat → Int32} (h : FS fs s1 s2 si sp z) (h3 : z' 3 = z 3) (hz : ∀ x, 46 ≤ x → x < 66 → z' x = z x) : FS fs s1 s2 si sp z' := by
  obtain ⟨c, hc, e1, e2, h⟩ := h
  refine ⟨c, hc, e1, by rw [h3]; exact e2, fun j hj => ?_⟩
  rw [hz _ (by omega) (by omega), hz _ (by omega) (by omega), hz _ (by omega) (by omega), hz _ (by omega) (by omega)]
  exact h j hj
theorem FE_cong {fe : Int32} {ew en z z' : Nat → Int32} (h : FE fe ew en z) (h4 : z' 4 = z 4) (hz : ∀ x, 66 ≤ x → x < 82 → z' x = z x) : FE fe ew en z' := by
  obtain ⟨c, hc, e1, e2, h⟩ := h
  refine ⟨c, hc, e1, by rw [h4]; exact e2, fun j hj => ?_⟩
  rw [hz _ (by omega) (by omega), hz _ (by omega) (by omega)]
  exact h j hj
theorem CU_0 {n k b : Nat} {B : List Nat} {nu : Nat} {ul : Nat → Int32} {hm kn : Int32} {n' k' : Nat} {B' : List Nat} (h : CU n k b B nu ul hm kn) : CU n' k' b B' nu ul hm 0 := ⟨h.1, Or.inl rfl⟩
-- racks emptied
theorem r_empty_L (z0 : Nat → Int32) (K : Int32 → (Nat → Int32) → Option (Nat → Int32)) : ∀ d i fu z, i + d = 9 → d < fu → (∀ x, z x = if 37 ≤ x ∧ x < 37 + i then -5 else z0 x) → ∃ z', (∀ x, z' x = if 37 ≤ x ∧ x < 46 then -5 else z0 x) ∧ f_X10_emptiesRacks_L2 K fu (nI i) z = K (nI 9) z'
  | d, i, 0, _, _, h, _ => by omega
  | 0, i, fu + 1, z, hi, _, h => by
    rw [f_X10_emptiesRacks_L2, li_9, if_pos (nI_le (by omega) (by omega)), show i = 9 by omega]
    refine ⟨z, fun x => ?_, rfl⟩
    rw [h x, show 37 + i = 46 by omega]
  | d + 1, i, fu + 1, z, hi, hfu, h => by
    rw [f_X10_emptiesRacks_L2, li_9, if_neg (nI_ge (by omega) (by omega)), li_37, nI_add, qe_wt _ _ (by omega) (by decide), ob_some, nI_1]
    refine r_empty_L z0 K d (i + 1) fu _ (by omega) (by omega) (fun x => ?_)
    by_cases e : x = 37 + i
    · rw [e, upd_at, if_pos (by omega)]
    · rw [upd_ne _ e, h x]
      refine if_iff ?_
      omega
theorem r_emptiesRacks (z : Nat → Int32) : ∃ z', (∀ x, z' x = if 37 ≤ x ∧ x < 46 then -5 else z x) ∧ f_X10_emptiesRacks z = some z' := by
  unfold f_X10_emptiesRacks
  exact r_empty_L z (fun _ a => some a) 9 0 q_fu z (by omega) (fu_lt (by omega)) (fun x => by rw [if_neg (by omega)])
theorem e_empty_L (K : Int32 → (Nat → Int32) → Option (Nat → Int32)) : ∀ d i fu fr, i + d = 9 → d < fu → (∀ x, x < i → fr x = -1) → ∃ fr', (∀ x, x < 9 → fr' x = -1) ∧ f_X3_emptyRacks_L2 K fu (nI i) fr = K (nI 9) fr'
  | d, i, 0, _, _, h, _ => by omega
  | 0, i, fu + 1, fr, hi, _, h => by
    rw [f_X3_emptyRacks_L2, li_9, if_pos (nI_le (by omega) (by omega)), show i = 9 by omega]
    exact ⟨fr, fun x hx => h x (by omega), rfl⟩
  | d + 1, i, fu + 1, fr, hi, hfu, h => by
    rw [f_X3_emptyRacks_L2, li_9, if_neg (nI_ge (by omega) (by omega)), qe_wt _ _ (by omega) (by decide), ob_some, nI_1]
    refine e_empty_L K d (i + 1) fu _ (by omega) (by omega) (fun x hx => ?_)
    by_cases e : x = i
    · rw [e, upd_at]
    · rw [upd_ne _ e]; exact h x (by omega)
theorem e_emptyRacks (fr : Nat → Int32) : ∃ fr', (∀ x, x < 9 → fr' x = -1) ∧ f_X3_emptyRacks fr = some fr' := by
  unfold f_X3_emptyRacks
  exact e_empty_L (fun _ a => some a) 9 0 q_fu fr (by omega) (fu_lt (by omega)) (fun x hx => by omega)
theorem gen_nil (n : Nat) : gen n [] = some [one n] := by
  show genL n [] (5998 + 1 + 1) 0 [one n] = _
  rw [genL, if_pos (by simp), gen1, ob_some, genL, if_neg (by simp)]
theorem sel_none (gk : Nat → Nat) (m i : Nat) : sel 0 gk m i = [] := by
  induction m generalizing i with
  | zero => rfl
  | succ m ih => rw [sel, if_neg (by rw [Nat.zero_testBit]; decide), ih]
/-- the class's moves grown anew -/
theorem e_growMoves {n m : Nat} {gk : Nat → Nat} {B : List Nat} {fg keys asF : Nat → Int32} {found turns pl uk wk' : Int32} (hn : n ≤ 6) (hm : m ≤ 4) (hg : ∀ g, g < m → Mv n (gk g) ∧ fg g = nI (gk g)) (hB : gen n (sel (2 ^ m - 1) gk m 0) = some B) : ∃ keys' asF' found' turns', GV n m gk B keys' asF' found' turns' (nI n) ∧ f_X9_growMoves (nI n) (nI m) fg keys asF found turns pl uk wk' = some (keys', asF', found', turns', nI n, 0, 0) := by
  unfold f_X9_growMoves f_X9_lowestBits f_X9_forgetClasses
  have hf := full_lt hm
  rw [full_I (by omega), ob_some]
  have hb : ∀ i, i < 4 → (2 ^ m - 1).testBit i = true → fg i = nI (gk i) ∧ Mv n (gk i) := fun i _ hb => by
    rw [Nat.testBit_two_pow_sub_one, decide_eq_true_eq] at hb
    exact ⟨(hg i hb).2, (hg i hb).1⟩
  obtain ⟨k', a', f', t', hV, e⟩ := (e_grow (keys := keys) (asF := asF) (found := found) (turns := turns) (pl := pl) hn hf.2 hb).1 B (by rw [sel_4 hm hf.1]; exact hB)
  rw [e, ob_some, ob_some]
  exact ⟨k', a', f', t', ⟨hB, hV, rfl⟩, rfl⟩
theorem op_places : OP_places RR := by
  intro x_hasImage f_places f_kinds f_weights f_howManyGenerators f_generators f_racks f_howManySeen f_seenFirst f_seenSecond f_seenIs f_seenPlaces f_howManyEvents f_eventWhat f_eventNumber g_places g_kinds g_weights g_howManyGenerators g_generators g_racks g_howManySeen g_seenFirst g_seenSecond g_seenIs g_seenPlaces g_howManyEvents g_eventWhat g_eventNumber v_keys v_asFound v_found v_turns v_places p_keys p_asFound p_found p_turns p_places i_sort i_howOften i_sorts i_moves n_u u_leasts u_howMany u_known n_w w_leasts w_howMany w_known t_signs t_length t_whole t_begins t_ends r_sorts r_numbers r_length sr ln it z_thrown z_s z_kept z_isKept z_moveMany z_moves z_hands z_troubles z_troubleSorts z_troubleNumbers z_asked z_paint z_leasts z_isSeen z_classMany z_types z_typeCounts z_typeMany z_text z_signs z_at z_lacks z_clauses z_begun z_letters z_firsts z_seconds z_aside z_sorts z_sizes z_items hR p1
  obtain ⟨n, k, m, gk, w, B, hF, hV, hI, hu, hw, ht, hr, hs⟩ := hR
  have hF' := hF
  obtain ⟨hb, ⟨rfl, rfl, rfl⟩, ⟨hz0, hz1, hz2⟩, hw4, hG, hK, hS, hE⟩ := hF
  have ein : f_X10_in (p1.toInt64) 2 6 = some (if (2 : Int32) ≤ p1 ∧ p1 ≤ 6 then 1 else 0) := r_inN (by decide) (by decide)
  by_cases hin : (2 : Int32) ≤ p1 ∧ p1 ≤ 6
  · obtain ⟨v, hv2, hv6, rfl⟩ := in_nat (l := 2) (h := 6) (by decide) (by decide) hin
    obtain ⟨z', hz', ez⟩ := r_emptiesRacks (upd (upd z_s 0 (nI v)) 2 0)
    obtain ⟨fr', hfr, ef⟩ := e_emptyRacks f_racks
    have hB0 : gen v (sel (2 ^ 0 - 1) gk 0 0) = some [one v] := gen_nil v
    obtain ⟨k', a', f', t', hVb, eg⟩ := e_begin (n := v) (keys := v_keys) (asF := v_asFound) (found := v_found) (turns := v_turns) (pl := v_places) hv6
    have hV' : GV v 0 gk [one v] k' a' f' t' (nI v) := ⟨hB0, hVb, rfl⟩
    refine ⟨(nI n, z'), ?_, (nI n, nI v, 0, fr', k', a', f', t', nI v, 0, 0), ?_, rfl, ?_⟩
    · unfold f_X10_places
      rw [ein, ob_some, if_pos hin, if_neg (show ¬ (1 : Int32) = 0 by decide), rd0 hz0, ob_some, show q_wt z_s 82 0 (nI v) = _ from qe_wt (i := 0) _ _ (by decide) (by decide), ob_some, show q_wt (upd z_s 0 (nI v)) 82 2 0 = _ from qe_wt (i := 2) _ _ (by decide) (by decide), ob_some, ez, ob_some]
    · unfold f_X9_places f_X9_forgetClasses
      rw [if_neg (nlt_le.mpr hin.1), if_pos hin.2, ef, ob_some, eg, ob_some, ob_some]
    · have hx : ∀ x, ¬ (x = 0 ∨ x = 2 ∨ 37 ≤ x ∧ x < 46) → z' x = z_s x := fun x h => by
        rw [hz' x, if_neg (by omega), upd_ne _ (by omega), upd_ne _ (by omega)]
      refine RR_mk (n := v) (k := k) (m := 0) (gk := gk) (w := w) (B := [one v]) ⟨⟨hv2, hv6, hb.2.2.1, hb.2.2.2.1, by omega⟩, ⟨rfl, rfl, rfl⟩, ⟨?_, ?_, ?_⟩, fun j hj => ?_, fun g hg => by omega, fun r hr => Or.inl ⟨hfr r hr, ?_⟩, FS_cong hS (hx 3 (by omega)) (fun x h1 h2 => hx x (by omega)), FE_cong hE (hx 4 (by omega)) (fun x h1 h2 => hx x (by omega))⟩ hV' hI (CU_0 hu) (CU_0 hw) ht hr hs
      · show z' 0 = _
        rw [hz' 0, if_neg (by omega), upd_ne _ (by omega), upd_at]
      · show z' 1 = _
        rw [hx 1 (by omega)]; exact hz1
      · show z' 2 = _
        rw [hz' 2, if_neg (by omega), upd_at]; rfl
      · show _ ∧ _ ∧ z' _ = _
        rw [hx _ (by omega)]; exact hw4 j hj
      · show z' _ = _
        rw [hz' _, if_pos (by omega)]
  · refine ⟨(-2, z_s), ?_, (-2, nI n, nI m, f_racks, v_keys, v_asFound, v_found, v_turns, v_places, u_known, w_known), ?_, rfl, RR_mk hF' hV hI hu hw ht hr hs⟩
    · unfold f_X10_places
      rw [ein, ob_some, if_neg hin, if_pos rfl]
    · unfold f_X9_places
      by_cases h1 : p1 < 2
      · rw [if_pos h1]
      · rw [if_neg h1, if_neg (fun q => hin ⟨nlt_le.mp h1, q⟩)]
theorem op_kinds : OP_kinds RR := by
  intro x_hasImage f_places f_kinds f_weights f_howManyGenerators f_generators f_racks f_howManySeen f_seenFirst f_seenSecond f_seenIs f_seenPlaces f_howManyEvents f_eventWhat f_eventNumber g_places g_kinds g_weights g_howManyGenerators g_generators g_racks g_howManySeen g_seenFirst g_seenSecond g_seenIs g_seenPlaces g_howManyEvents g_eventWhat g_eventNumber v_keys v_asFound v_found v_turns v_places p_keys p_asFound p_found p_turns p_places i_sort i_howOften i_sorts i_moves n_u u_leasts u_howMany u_known n_w w_leasts w_howMany w_known t_signs t_length t_whole t_begins t_ends r_sorts r_numbers r_length sr ln it z_thrown z_s z_kept z_isKept z_moveMany z_moves z_hands z_troubles z_troubleSorts z_troubleNumbers z_asked z_paint z_leasts z_isSeen z_classMany z_types z_typeCounts z_typeMany z_text z_signs z_at z_lacks z_clauses z_begun z_letters z_firsts z_seconds z_aside z_sorts z_sizes z_items hR p1
  obtain ⟨n, k, m, gk, w, B, hF, hV, hI, hu, hw, ht, hr, hs⟩ := hR
  have hF' := hF
  obtain ⟨hb, ⟨rfl, rfl, rfl⟩, ⟨hz0, hz1, hz2⟩, hw4, hG, hK, hS, hE⟩ := hF
  have ein : f_X10_in (p1.toInt64) 1 4 = some (if (1 : Int32) ≤ p1 ∧ p1 ≤ 4 then 1 else 0) := r_inN (by decide) (by decide)
  by_cases hin : (1 : Int32) ≤ p1 ∧ p1 ≤ 4
  · obtain ⟨v, hv1, hv4, rfl⟩ := in_nat (l := 1) (h := 4) (by decide) (by decide) hin
    refine ⟨(nI k, upd z_s 1 (nI v)), ?_, (nI k, nI v, 0, 0), ?_, rfl, ?_⟩
    · unfold f_X10_kinds
      rw [ein, ob_some, if_pos hin, if_neg (show ¬ (1 : Int32) = 0 by decide), rd1 hz1, ob_some, show q_wt z_s 82 1 (nI v) = _ from qe_wt (i := 1) _ _ (by decide) (by decide), ob_some]
    · unfold f_X9_kinds f_X9_forgetClasses
      rw [if_neg (nlt_le.mpr hin.1), if_pos hin.2, ob_some]
    · have hx : ∀ x, ¬ x = 1 → upd z_s 1 (nI v) x = z_s x := fun x h => upd_ne _ h
      refine RR_mk (n := n) (k := v) (m := m) (gk := gk) (w := w) (B := B) ⟨⟨hb.1, hb.2.1, hv1, hv4, hb.2.2.2.2⟩, ⟨rfl, rfl, rfl⟩, ⟨?_, (show upd z_s 1 (nI v) 1 = nI v from upd_at _ _ _), ?_⟩, fun j hj => ?_, FG_cong hb.2.2.2.2 hb.2.1 hG (fun x h1 h2 => hx x (by omega)), FK_cong hK (fun x h1 h2 => hx x (by omega)), FS_cong hS (hx 3 (by omega)) (fun x h1 h2 => hx x (by omega)), FE_cong hE (hx 4 (by omega)) (fun x h1 h2 => hx x (by omega))⟩ hV hI (CU_0 hu) (CU_0 hw) ht hr hs
      · exact (hx 0 (by omega)).trans hz0
      · exact (hx 2 (by omega)).trans hz2
      · exact ⟨(hw4 j hj).1, (hw4 j hj).2.1, (hx _ (by omega)).trans (hw4 j hj).2.2⟩
  · refine ⟨(-2, z_s), ?_, (-2, nI k, u_known, w_known), ?_, rfl, RR_mk hF' hV hI hu hw ht hr hs⟩
    · unfold f_X10_kinds
      rw [ein, ob_some, if_neg hin, if_pos rfl]
    · unfold f_X9_kinds
      by_cases h1 : p1 < 1
      · rw [if_pos h1]
      · rw [if_neg h1, if_neg (fun q => hin ⟨nlt_le.mp h1, q⟩)]
theorem op_weight : OP_weight RR := by
  intro x_hasImage f_places f_kinds f_weights f_howManyGenerators f_generators f_racks f_howManySeen f_seenFirst f_seenSecond f_seenIs f_seenPlaces f_howManyEvents f_eventWhat f_eventNumber g_places g_kinds g_weights g_howManyGenerators g_generators g_racks g_howManySeen g_seenFirst g_seenSecond g_seenIs g_seenPlaces g_howManyEvents g_eventWhat g_eventNumber v_keys v_asFound v_found v_turns v_places p_keys p_asFound p_found p_turns p_places i_sort i_howOften i_sorts i_moves n_u u_leasts u_howMany u_known n_w w_leasts w_howMany w_known t_signs t_length t_whole t_begins t_ends r_sorts r_numbers r_length sr ln it z_thrown z_s z_kept z_isKept z_moveMany z_moves z_hands z_troubles z_troubleSorts z_troubleNumbers z_asked z_paint z_leasts z_isSeen z_classMany z_types z_typeCounts z_typeMany z_text z_signs z_at z_lacks z_clauses z_begun z_letters z_firsts z_seconds z_aside z_sorts z_sizes z_items hR p1 p2
  obtain ⟨n, k, m, gk, w, B, hF, hV, hI, hu, hw, ht, hr, hs⟩ := hR
  have hF' := hF
  obtain ⟨hb, ⟨rfl, rfl, rfl⟩, ⟨hz0, hz1, hz2⟩, hw4, hG, hK, hS, hE⟩ := hF
  have ein : f_X10_in (p1.toInt64) 0 3 = some (if (0 : Int32) ≤ p1 ∧ p1 ≤ 3 then 1 else 0) := r_inN (by decide) (by decide)
  have ein2 : f_X10_in (p2.toInt64) 0 9 = some (if (0 : Int32) ≤ p2 ∧ p2 ≤ 9 then 1 else 0) := r_inN (by decide) (by decide)
  by_cases hin : (0 : Int32) ≤ p1 ∧ p1 ≤ 3
  · obtain ⟨v, -, hv4, rfl⟩ := in_nat (l := 0) (h := 3) (by decide) (by decide) hin
    have hlt : nI v < 4 := by rw [li_4]; exact nI_lt (by omega) (by decide)
    by_cases hin2 : (0 : Int32) ≤ p2 ∧ p2 ≤ 9
    · obtain ⟨x, -, hx9, rfl⟩ := in_nat (l := 0) (h := 9) (by decide) (by decide) hin2
      refine ⟨(nI (w v), upd z_s (5 + v) (nI x)), ?_, (nI (w v), upd f_weights v (nI x)), ?_, rfl, ?_⟩
      · unfold f_X10_weight
        rw [ein, ob_some, if_pos hin, if_neg (show ¬ (1 : Int32) = 0 by decide), ein2, ob_some, if_pos hin2, if_neg (show ¬ (1 : Int32) = 0 by decide), li_5, nI_add, qe_rd _ (by omega) (by decide), ob_some, qe_wt _ _ (by omega) (by decide), ob_some, (hw4 v (by omega)).2.2]
      · unfold f_X9_weight
        rw [if_neg (nlt_le.mpr hin.1), if_pos hlt, if_neg (nlt_le.mpr hin2.1), if_pos hin2.2, qe_rd _ (by omega) (by decide), ob_some, qe_wt _ _ (by omega) (by decide), ob_some, (hw4 v (by omega)).2.1]
      · have hx : ∀ y, ¬ y = 5 + v → upd z_s (5 + v) (nI x) y = z_s y := fun y h => upd_ne _ h
        refine RR_mk (n := n) (k := k) (m := m) (gk := gk) (w := fun j => if j = v then x else w j) (B := B) ⟨hb, ⟨rfl, rfl, rfl⟩, ⟨(hx 0 (by omega)).trans hz0, (hx 1 (by omega)).trans hz1, (hx 2 (by omega)).trans hz2⟩, fun j hj => ?_, FG_cong hb.2.2.2.2 hb.2.1 hG (fun y h1 h2 => hx y (by omega)), FK_cong hK (fun y h1 h2 => hx y (by omega)), FS_cong hS (hx 3 (by omega)) (fun y h1 h2 => hx y (by omega)), FE_cong hE (hx 4 (by omega)) (fun y h1 h2 => hx y (by omega))⟩ hV hI hu hw ht hr hs
        show (if j = v then x else w j) ≤ 9 ∧ upd f_weights v (nI x) j = nI (if j = v then x else w j) ∧ upd z_s (5 + v) (nI x) (5 + j) = nI (if j = v then x else w j)
        by_cases e : j = v
        · subst e
          rw [if_pos rfl, upd_at, upd_at]
          exact ⟨hx9, rfl, rfl⟩
        · rw [if_neg e, upd_ne _ e, upd_ne _ (by omega)]
          exact hw4 j hj
    · refine ⟨(-2, z_s), ?_, (-2, f_weights), ?_, rfl, RR_mk hF' hV hI hu hw ht hr hs⟩
      · unfold f_X10_weight
        rw [ein, ob_some, if_pos hin, if_neg (show ¬ (1 : Int32) = 0 by decide), ein2, ob_some, if_neg hin2, if_pos rfl]
      · unfold f_X9_weight
        rw [if_neg (nlt_le.mpr hin.1), if_pos hlt]
        by_cases h1 : p2 < 0
        · rw [if_pos h1]
        · rw [if_neg h1, if_neg (fun q => hin2 ⟨nlt_le.mp h1, q⟩)]
  · refine ⟨(-1, z_s), ?_, (-1, f_weights), ?_, rfl, RR_mk hF' hV hI hu hw ht hr hs⟩
    · unfold f_X10_weight
      rw [ein, ob_some, if_neg hin, if_pos rfl]
    · unfold f_X9_weight
      by_cases h1 : p1 < 0
      · rw [if_pos h1]
      · rw [if_neg h1, if_neg (fun q => hin ⟨nlt_le.mp h1, by rw [fa_lt, show (4 : Int32).toInt = 4 from by decide] at q; rw [fa_le, show (3 : Int32).toInt = 3 from by decide]; omega⟩)]
