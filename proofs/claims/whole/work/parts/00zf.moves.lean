-- ===== the steps: of, lay, rack, move =====
theorem KS_of {n k m : Nat} {gk : Nat → Nat} {fg z : Nat → Int32} {B : List Nat} (hb : FB n k m) (hG : FG n m gk fg z) (h : gen n (sel (2 ^ m - 1) gk m 0) = some B) : KS B n := by
  refine ⟨gen_Gp hb.2.1 (fun g hg => ?_) h, (gen_spec h).1.2.2.2⟩
  obtain ⟨j, -, h2, -, rfl⟩ := sel_of _ _ _ hg
  exact (hG j (by omega)).1
theorem ZG_of {n m : Nat} {gk : Nat → Nat} {fg z : Nat → Int32} (h0 : z 0 = nI n) (h2 : z 2 = nI m) (hG : FG n m gk fg z) : ZG z n m gk := ⟨h0, h2, fun g hg => ⟨(hG g hg).2.2.1, (hG g hg).2.2.2⟩⟩
theorem e_tellMove {n K : Nat} (p : Int32) (h2 : 2 ≤ n) (hn : n ≤ 6) (hK : Mv n K) : f_X9_tellMove (nI K) p (nI n) = some (if p = 0 then nI (num n K) else if p = 1 then nI (K % 2) else if p = 2 then nI (typ n (rwf n (K / 2))) else -1) := by
  have hl := Mv_lt hK
  unfold f_X9_tellMove
  rw [e_row (by omega), e_hand, show f_X2_number (nI (K / 2)) (nI n) 1 = _ from e_number (lo := 1) (by omega) hn, e_cycleType h2 hn hK, ob_some, ob_some]
  split
  · rfl
  · split
    · rfl
    · split <;> rfl
/-- whether a number is a generator's -/
theorem g_dec (x : Int32) (m : Nat) (hm : m ≤ 4) : (∃ g, g < m ∧ x = nI g) ∨ ¬ (0 ≤ x ∧ x ≤ nI m - 1) ∧ (x < 0 ∨ nI m ≤ x) := by
  by_cases h0 : x < 0
  · exact Or.inr ⟨fun q => nlt_le.mpr q.1 h0, Or.inl h0⟩
  · obtain ⟨v, hv, rfl⟩ := nI_of h0
    by_cases h1 : v < m
    · exact Or.inl ⟨v, h1, rfl⟩
    · refine Or.inr ⟨fun q => ?_, Or.inr (nI_le (by omega) hv)⟩
      by_cases hm0 : m = 0
      · subst hm0
        have := q.2
        rw [fa_le, show (nI 0 - 1 : Int32).toInt = -1 from by decide, nI_toInt hv] at this
        omega
      · rw [nI_dec (by omega)] at q
        have := (nI_leI hv (by omega)).mp q.2
        omega
theorem r_isG {z : Nat → Int32} {m : Nat} (x : Int32) (hz : z 2 = nI m) : f_X10_isGenerator x z = some (if (0 : Int32) ≤ x ∧ x ≤ nI m - 1 then 1 else 0) := by
  unfold f_X10_isGenerator
  rw [rd2 hz, ob_some, show f_X10_in x.toInt64 0 ((nI m - 1 : Int32).toInt64) = _ from r_inN (l := 0) (by decide) rfl, ob_some]
  split <;> rfl
theorem r_isG_yes {z : Nat → Int32} {m g : Nat} (hm : m ≤ 4) (hz : z 2 = nI m) (hg : g < m) : f_X10_isGenerator (nI g) z = some 1 := by
  rw [r_isG _ hz, if_pos]
  rw [nI_dec (by omega)]
  exact ⟨nI_pos' (by omega), nI_le (by omega) (by omega)⟩
theorem e_isG_yes {m g : Nat} (hm : m ≤ 4) (hg : g < m) : f_X9_isGenerator (nI g) (nI m) = some 1 := by
  unfold f_X9_isGenerator
  rw [if_neg (nI_pos (by omega)), if_neg (nI_ge hg (by omega)), li_4, if_neg (nI_ge (by omega) (by omega))]
theorem e_isG_no {m : Nat} {x : Int32} (h : x < 0 ∨ nI m ≤ x) : f_X9_isGenerator x (nI m) = some 0 := by
  unfold f_X9_isGenerator
  by_cases h0 : x < 0
  · rw [if_pos h0]
  · rw [if_neg h0, if_pos (h.resolve_left h0)]
theorem r_rowOf_L {z : Nat → Int32} {n g K : Nat} (hn : n ≤ 6) (hg : g < 4) (hz : z 0 = nI n) (h : ∀ p, p < n → z (9 + 6 * g + p) = nI (dg (K / 2) p)) (KK : Int32 → Int32 → Option Int32) : ∀ d i fu, i + d = n → d < fu → f_X10_rowOf_L4 (nI g) z KK fu (nI (cb 10 (fun p => dg (K / 2) p + 1) i)) (nI i) = KK (nI (num n K)) (nI n)
  | d, i, 0, _, h => by omega
  | 0, i, fu + 1, hi, _ => by
    rw [f_X10_rowOf_L4, rd0 hz, ob_some, if_pos (nI_le (by omega) (by omega)), show i = n by omega, num]
  | d + 1, i, fu + 1, hi, hfu => by
    rw [f_X10_rowOf_L4, rd0 hz, ob_some, if_neg (nI_ge (by omega) (by omega)), li_6, li_9, nI_mul, nI_add, nI_add, qe_rd _ (by omega) (by decide), ob_some, h i (by omega), li_10, nI_mul, nI_add, nI_1, nI_1, Nat.mul_comm 10]
    exact r_rowOf_L hn hg hz h KK d (i + 1) fu (by omega) (by omega)
theorem r_rowOf {z : Nat → Int32} {n g K : Nat} (hn : n ≤ 6) (hg : g < 4) (hz : z 0 = nI n) (h : ∀ p, p < n → z (9 + 6 * g + p) = nI (dg (K / 2) p)) : f_X10_rowOf (nI g) z = some (nI (num n K)) := by
  unfold f_X10_rowOf
  exact r_rowOf_L hn hg hz h (fun a _ => some a) n 0 q_fu (by omega) (fu_lt (by omega))
theorem r_ofask_L {z : Nat → Int32} {n g row : Nat} (hn : n ≤ 6) (hg : g < 4) (hz : z 0 = nI n) (h : ∀ p, p < n → z (9 + 6 * g + p) = nI (dg row p)) (K : Int32 → (Nat → Int32) → Option (Int32 × (Nat → Int32))) : ∀ d i fu as, i + d = n → d < fu → (∀ p, p < i → as p = nI (rwf n row p)) → ∃ as', AS as' n (rwf n row) ∧ f_X10_of_L51 (nI g) z K fu (nI i) as = K (nI n) as'
  | d, i, 0, _, _, h, _ => by omega
  | 0, i, fu + 1, as, hi, _, ha => by
    rw [f_X10_of_L51, rd0 hz, ob_some, if_pos (nI_le (by omega) (by omega)), show i = n by omega]
    exact ⟨as, fun p hp => ha p (by omega), rfl⟩
  | d + 1, i, fu + 1, as, hi, hfu, ha => by
    rw [f_X10_of_L51, rd0 hz, ob_some, if_neg (nI_ge (by omega) (by omega)), li_6, li_9, nI_mul, nI_add, nI_add, qe_rd _ (by omega) (by decide), ob_some, h i (by omega), qe_wt _ _ (by omega) (by decide), ob_some, nI_1]
    refine r_ofask_L hn hg hz h K d (i + 1) fu _ (by omega) (by omega) (fun p hp => ?_)
    rcases Nat.lt_succ_iff_lt_or_eq.mp hp with hp | rfl
    · rw [upd_ne _ (by omega)]; exact ha p hp
    · rw [upd_at, rwf_lt (by omega)]
theorem op_of : OP_of RR := by
  intro x_hasImage f_places f_kinds f_weights f_howManyGenerators f_generators f_racks f_howManySeen f_seenFirst f_seenSecond f_seenIs f_seenPlaces f_howManyEvents f_eventWhat f_eventNumber g_places g_kinds g_weights g_howManyGenerators g_generators g_racks g_howManySeen g_seenFirst g_seenSecond g_seenIs g_seenPlaces g_howManyEvents g_eventWhat g_eventNumber v_keys v_asFound v_found v_turns v_places p_keys p_asFound p_found p_turns p_places i_sort i_howOften i_sorts i_moves n_u u_leasts u_howMany u_known n_w w_leasts w_howMany w_known t_signs t_length t_whole t_begins t_ends r_sorts r_numbers r_length sr ln it z_thrown z_s z_kept z_isKept z_moveMany z_moves z_hands z_troubles z_troubleSorts z_troubleNumbers z_asked z_paint z_leasts z_isSeen z_classMany z_types z_typeCounts z_typeMany z_text z_signs z_at z_lacks z_clauses z_begun z_letters z_firsts z_seconds z_aside z_sorts z_sizes z_items hR p1 p2
  obtain ⟨n, k, m, gk, w, B, hF, hV, hI, hu, hw, ht, hr, hs⟩ := hR
  have hF' := hF
  obtain ⟨hb, ⟨rfl, rfl, rfl⟩, ⟨hz0, hz1, hz2⟩, hw4, hG, hK, hS, hE⟩ := hF
  have hm4 := hb.2.2.2.2
  have ein : f_X10_in (p2.toInt64) 0 2 = some (if (0 : Int32) ≤ p2 ∧ p2 ≤ 2 then 1 else 0) := r_inN (by decide) (by decide)
  rcases g_dec p1 m hm4 with ⟨g, hg, rfl⟩ | ⟨h1, h2⟩
  · obtain ⟨hM, e1, e2, e3⟩ := hG g hg
    have ec : f_X9_of (nI g) p2 (nI n) (nI m) f_generators = some (if p2 = 0 then nI (num n (gk g)) else if p2 = 1 then nI (gk g % 2) else if p2 = 2 then nI (typ n (rwf n (gk g / 2))) else -1) := by
      unfold f_X9_of
      rw [e_isG_yes hm4 hg, ob_some, if_neg (show ¬ (1 : Int32) = 0 by decide), qe_rd _ (by omega) (by decide), ob_some, e1, e_tellMove p2 hb.1 hb.2.1 hM, ob_some]
    by_cases hin : (0 : Int32) ≤ p2 ∧ p2 ≤ 2
    · obtain ⟨v, -, hv, rfl⟩ := in_nat (l := 0) (h := 2) (by decide) (by decide) hin
      rcases (show v = 0 ∨ v = 1 ∨ v = 2 by omega) with rfl | rfl | rfl
      · refine ⟨(nI (num n (gk g)), z_asked), ?_, _, ec, rfl, RR_mk hF' hV hI hu hw ht hr hs⟩
        unfold f_X10_of
        rw [r_isG_yes hm4 hz2 hg, ob_some, if_neg (show ¬ (1 : Int32) = 0 by decide), ein, ob_some, if_pos hin, if_neg (show ¬ (1 : Int32) = 0 by decide), if_neg (by decide), if_pos (show nI 0 = (0 : Int32) from rfl), r_rowOf hb.2.1 (by omega) hz0 e2, ob_some]
      · refine ⟨(nI (gk g % 2), z_asked), ?_, _, ec, rfl, RR_mk hF' hV hI hu hw ht hr hs⟩
        unfold f_X10_of
        rw [r_isG_yes hm4 hz2 hg, ob_some, if_neg (show ¬ (1 : Int32) = 0 by decide), ein, ob_some, if_pos hin, if_neg (show ¬ (1 : Int32) = 0 by decide), if_neg (by decide), if_neg (by decide), li_33, nI_add, qe_rd _ (by omega) (by decide), ob_some, e3]
      · obtain ⟨as', hA, e4⟩ := r_ofask_L hb.2.1 (show g < 4 by omega) hz0 e2 (fun _ z_asked_6 => (f_X10_typeAsked z_s z_asked_6).bind fun t7 => some (t7, z_asked_6)) n 0 q_fu z_asked (by omega) (fu_lt (by have := hb.2.1; omega)) (fun p hp => by omega)
        refine ⟨(nI (typ n (rwf n (gk g / 2))), as'), ?_, _, ec, rfl, RR_mk hF' hV hI hu hw ht hr hs⟩
        unfold f_X10_of
        rw [r_isG_yes hm4 hz2 hg, ob_some, if_neg (show ¬ (1 : Int32) = 0 by decide), ein, ob_some, if_pos hin, if_neg (show ¬ (1 : Int32) = 0 by decide), if_pos (by decide)]
        refine Eq.trans e4 ?_
        show (f_X10_typeAsked z_s as').bind _ = _
        rw [r_typeAsked hb.1 hb.2.1 hz0 hM hA, ob_some]
    · refine ⟨(-1, z_asked), ?_, _, ec, ?_, RR_mk hF' hV hI hu hw ht hr hs⟩
      · unfold f_X10_of
        rw [r_isG_yes hm4 hz2 hg, ob_some, if_neg (show ¬ (1 : Int32) = 0 by decide), ein, ob_some, if_neg hin, if_pos rfl]
      · rw [if_neg (by rintro rfl; exact hin (by decide)), if_neg (by rintro rfl; exact hin (by decide)), if_neg (by rintro rfl; exact hin (by decide))]
  · refine ⟨(-1, z_asked), ?_, -1, ?_, rfl, RR_mk hF' hV hI hu hw ht hr hs⟩
    · unfold f_X10_of
      rw [r_isG _ hz2, ob_some, if_neg h1, if_pos rfl]
    · unfold f_X9_of
      rw [e_isG_no h2, ob_some, if_pos rfl]
/-- a place of a rack in other cells -/
theorem FK_upd {m r : Nat} {fr z : Nat → Int32} {x y : Int32} (h : FK m fr z) (hr : r < 9) (hxy : (x = -1 ∧ y = -5) ∨ ∃ g, g < m ∧ x = nI g ∧ y = nI g) : FK m (upd fr r x) (upd z (37 + r) y) := by
  intro s hs
  by_cases e : s = r
  · subst e
    rw [upd_at, upd_at]
    exact hxy
  · rw [upd_ne _ e, upd_ne _ (by omega)]
    exact h s hs
/-- what a place held, told -/
theorem FK_told {m r : Nat} {fr z : Nat → Int32} (hm : m ≤ 4) (h : FK m fr z) (hr : r < 9) : (if fr r = -1 then -5 else fr r) = z (37 + r) := by
  rcases h r hr with ⟨h1, h2⟩ | ⟨g, hg, h1, h2⟩
  · rw [if_pos h1, h2]
  · rw [h1, h2, if_neg (fun q => neg_ne (a := g) (by omega) m1_lt q.symm)]
theorem lay_RR {n k m r : Nat} {gk w : Nat → Nat} {fw fg fr s1 s2 si sp ew en z : Nat → Int32} {fs fe x y : Int32} (hF : FR n k m gk w (nI n) (nI k) fw (nI m) fg fr fs s1 s2 si sp fe ew en z) (hr : r < 9) (hxy : (x = -1 ∧ y = -5) ∨ ∃ g, g < m ∧ x = nI g ∧ y = nI g) : FR n k m gk w (nI n) (nI k) fw (nI m) fg (upd fr r x) fs s1 s2 si sp fe ew en (upd z (37 + r) y) := by
  obtain ⟨hb, -, ⟨hz0, hz1, hz2⟩, hw4, hG, hK, hS, hE⟩ := hF
  have hx : ∀ q, ¬ q = 37 + r → upd z (37 + r) y q = z q := fun q h => upd_ne _ h
  exact ⟨hb, ⟨rfl, rfl, rfl⟩, ⟨(hx 0 (by omega)).trans hz0, (hx 1 (by omega)).trans hz1, (hx 2 (by omega)).trans hz2⟩, fun j hj => ⟨(hw4 j hj).1, (hw4 j hj).2.1, (hx _ (by omega)).trans (hw4 j hj).2.2⟩, FG_cong hb.2.2.2.2 hb.2.1 hG (fun q h1 h2 => hx q (by omega)), FK_upd hK hr hxy, FS_cong hS (hx 3 (by omega)) (fun q h1 h2 => hx q (by omega)), FE_cong hE (hx 4 (by omega)) (fun q h1 h2 => hx q (by omega))⟩
theorem op_lay : OP_lay RR := by
  intro x_hasImage f_places f_kinds f_weights f_howManyGenerators f_generators f_racks f_howManySeen f_seenFirst f_seenSecond f_seenIs f_seenPlaces f_howManyEvents f_eventWhat f_eventNumber g_places g_kinds g_weights g_howManyGenerators g_generators g_racks g_howManySeen g_seenFirst g_seenSecond g_seenIs g_seenPlaces g_howManyEvents g_eventWhat g_eventNumber v_keys v_asFound v_found v_turns v_places p_keys p_asFound p_found p_turns p_places i_sort i_howOften i_sorts i_moves n_u u_leasts u_howMany u_known n_w w_leasts w_howMany w_known t_signs t_length t_whole t_begins t_ends r_sorts r_numbers r_length sr ln it z_thrown z_s z_kept z_isKept z_moveMany z_moves z_hands z_troubles z_troubleSorts z_troubleNumbers z_asked z_paint z_leasts z_isSeen z_classMany z_types z_typeCounts z_typeMany z_text z_signs z_at z_lacks z_clauses z_begun z_letters z_firsts z_seconds z_aside z_sorts z_sizes z_items hR p1 p2 p3
  obtain ⟨n, k, m, gk, w, B, hF, hV, hI, hu, hw, ht, hr, hs⟩ := hR
  have hF' := hF
  obtain ⟨hb, ⟨rfl, rfl, rfl⟩, ⟨hz0, hz1, hz2⟩, hw4, hG, hK, hS, hE⟩ := hF
  have hm4 := hb.2.2.2.2
  have ein1 : f_X10_in (p1.toInt64) 0 2 = some (if (0 : Int32) ≤ p1 ∧ p1 ≤ 2 then 1 else 0) := r_inN (by decide) (by decide)
  have ein2 : f_X10_in (p2.toInt64) 0 2 = some (if (0 : Int32) ≤ p2 ∧ p2 ≤ 2 then 1 else 0) := r_inN (by decide) (by decide)
  have l3 : ∀ x : Int32, ¬ ((0 : Int32) ≤ x ∧ x ≤ 2) → ¬ x < 0 → 3 ≤ x := fun x h1 h2 => by
    rw [fa_le, fa_le, show (0 : Int32).toInt = 0 from by decide, show (2 : Int32).toInt = 2 from by decide] at h1
    rw [fa_lt, show (0 : Int32).toInt = 0 from by decide] at h2
    rw [fa_le, show (3 : Int32).toInt = 3 from by decide]
    omega
  by_cases hin1 : (0 : Int32) ≤ p1 ∧ p1 ≤ 2
  · obtain ⟨a, -, ha, rfl⟩ := in_nat (l := 0) (h := 2) (by decide) (by decide) hin1
    have c1 : ¬ nI a < 0 := nlt_le.mpr hin1.1
    have c2 : ¬ (3 : Int32) ≤ nI a := by rw [li_3]; exact nI_ge (by omega) (by decide)
    by_cases h3 : p3 = -1
    · subst h3
      by_cases hin2 : (0 : Int32) ≤ p2 ∧ p2 ≤ 2
      · obtain ⟨b, -, hb2, rfl⟩ := in_nat (l := 0) (h := 2) (by decide) (by decide) hin2
        have d1 : ¬ nI b < 0 := nlt_le.mpr hin2.1
        have d2 : nI b < 3 := by rw [li_3]; exact nI_lt (by omega) (by decide)
        refine ⟨(z_s (37 + (3 * a + b)), upd z_s (37 + (3 * a + b)) (-5)), ?_, (z_s (37 + (3 * a + b)), upd f_racks (3 * a + b) (-1)), ?_, rfl, RR_mk (lay_RR hF' (by omega) (Or.inl ⟨rfl, rfl⟩)) hV hI hu hw ht hr hs⟩
        · unfold f_X10_lay
          rw [ein1, ein2, ob_some, ob_some, if_pos hin1, if_pos hin2, if_neg (show ¬ (1 : Int32) = 0 by decide), if_pos rfl, if_neg (show ¬ (1 : Int32) = 0 by decide), if_pos rfl, li_3, li_37, nI_mul, nI_add, nI_add, qe_rd _ (by omega) (by decide), ob_some, if_pos rfl, qe_wt _ _ (by omega) (by decide), ob_some, show 37 + 3 * a + b = 37 + (3 * a + b) by omega]
        · unfold f_X9_lay
          rw [if_neg c1, if_neg c2, if_pos rfl, if_neg d1, if_pos d2, if_pos rfl, li_3, nI_mul, nI_add, qe_rd _ (by omega) (by decide), ob_some, qe_wt _ _ (by omega) (by decide), ob_some, Nat.mul_comm a 3, ← FK_told hm4 hK (show 3 * a + b < 9 by omega)]
          split <;> rfl
      · refine ⟨(-13, z_s), ?_, (-13, f_racks), ?_, rfl, RR_mk hF' hV hI hu hw ht hr hs⟩
        · unfold f_X10_lay
          rw [ein1, ein2, ob_some, ob_some, if_pos hin1, if_neg hin2, if_neg (show ¬ (1 : Int32) = 0 by decide), if_pos rfl, if_pos rfl]
        · unfold f_X9_lay
          rw [if_neg c1, if_neg c2, if_pos rfl]
          by_cases d1 : p2 < 0
          · rw [if_pos d1]
          · rw [if_neg d1, if_neg (fun q => lt_nle.mp q (l3 _ hin2 d1))]
    · rcases g_dec p3 m hm4 with ⟨g, hg, rfl⟩ | ⟨q1, q2⟩
      · obtain ⟨hM, e1, -, e3⟩ := hG g hg
        by_cases hin2 : (0 : Int32) ≤ p2 ∧ p2 ≤ 2
        · obtain ⟨b, -, hb2, rfl⟩ := in_nat (l := 0) (h := 2) (by decide) (by decide) hin2
          have d1 : ¬ nI b < 0 := nlt_le.mpr hin2.1
          have d2 : nI b < 3 := by rw [li_3]; exact nI_lt (by omega) (by decide)
          by_cases htk : a = 0 ∨ a = gk g % 2 + 1
          · refine ⟨(z_s (37 + (3 * a + b)), upd z_s (37 + (3 * a + b)) (nI g)), ?_, (z_s (37 + (3 * a + b)), upd f_racks (3 * a + b) (nI g)), ?_, rfl, RR_mk (lay_RR hF' (by omega) (Or.inr ⟨g, hg, rfl, rfl⟩)) hV hI hu hw ht hr hs⟩
            · unfold f_X10_lay
              rw [ein1, ein2, ob_some, ob_some, if_pos hin1, if_pos hin2, if_neg (show ¬ (1 : Int32) = 0 by decide), if_neg h3, r_isG_yes hm4 hz2 hg, ob_some, if_neg (show ¬ (1 : Int32) = 0 by decide), if_neg (show ¬ (1 : Int32) = 0 by decide), if_neg h3, li_3, li_37, nI_mul, nI_add, nI_add]
              have e37 : 37 + 3 * a + b = 37 + (3 * a + b) := by omega
              by_cases ha0 : a = 0
              · rw [if_pos (by rw [ha0]; decide), qe_rd _ (by omega) (by decide), ob_some, if_neg h3, qe_wt _ _ (by omega) (by decide), ob_some, e37]
              · rw [if_neg (nI_nle (by omega) (by omega)), li_33, nI_add, qe_rd _ (by omega) (by decide), ob_some, e3, nI_dec (by omega), if_pos (by rw [show gk g % 2 = a - 1 by omega]), qe_rd _ (by omega) (by decide), ob_some, if_neg h3, qe_wt _ _ (by omega) (by decide), ob_some, e37]
            · unfold f_X9_lay f_X9_takes
              rw [if_neg c1, if_neg c2, if_neg h3, e_isG_yes hm4 hg, ob_some, if_neg (show ¬ (1 : Int32) = 0 by decide), if_neg d1, if_pos d2, if_neg h3, li_3, nI_mul, nI_add, qe_rd _ (by omega) (by decide), ob_some, e1, e_hand, nI_1]
              have etk : (if nI a = (0 : Int32) then some (1 : Int32) else if nI a = nI (gk g % 2 + 1) then some 1 else some 0) = some 1 := by
                rcases htk with rfl | htk
                · exact if_pos rfl
                · rw [if_neg (nI_ne0 (by omega) (by omega)), if_pos (by rw [htk])]
              rw [etk, ob_some, if_neg (show ¬ (1 : Int32) = 0 by decide), qe_rd _ (by omega) (by decide), ob_some, qe_wt _ _ (by omega) (by decide), ob_some, Nat.mul_comm a 3, ← FK_told hm4 hK (show 3 * a + b < 9 by omega)]
              split <;> rfl
          · refine ⟨(-12, z_s), ?_, (-12, f_racks), ?_, rfl, RR_mk hF' hV hI hu hw ht hr hs⟩
            · unfold f_X10_lay
              rw [ein1, ein2, ob_some, ob_some, if_pos hin1, if_pos hin2, if_neg (show ¬ (1 : Int32) = 0 by decide), if_neg h3, r_isG_yes hm4 hz2 hg, ob_some, if_neg (show ¬ (1 : Int32) = 0 by decide), if_neg (show ¬ (1 : Int32) = 0 by decide), if_neg h3, if_neg (nI_nle (by omega) (by omega)), li_33, nI_add, qe_rd _ (by omega) (by decide), ob_some, e3, nI_dec (by omega), if_neg (fun q => by have := nI_inj (a := gk g % 2) (b := a - 1) (by omega) (by omega) q; omega)]
            · unfold f_X9_lay f_X9_takes
              rw [if_neg c1, if_neg c2, if_neg h3, e_isG_yes hm4 hg, ob_some, if_neg (show ¬ (1 : Int32) = 0 by decide), if_neg d1, if_pos d2, if_neg h3, qe_rd _ (by omega) (by decide), ob_some, e1, e_hand, nI_1, if_neg (nI_ne0 (by omega) (by omega)), if_neg (fun q => htk (Or.inr (nI_inj (by omega) (by omega) q))), ob_some, if_pos rfl]
        · refine ⟨(-13, z_s), ?_, (-13, f_racks), ?_, rfl, RR_mk hF' hV hI hu hw ht hr hs⟩
          · unfold f_X10_lay
            rw [ein1, ein2, ob_some, ob_some, if_pos hin1, if_neg hin2, if_neg (show ¬ (1 : Int32) = 0 by decide), if_neg h3, r_isG_yes hm4 hz2 hg, ob_some, if_neg (show ¬ (1 : Int32) = 0 by decide), if_pos rfl]
          · unfold f_X9_lay
            rw [if_neg c1, if_neg c2, if_neg h3, e_isG_yes hm4 hg, ob_some, if_neg (show ¬ (1 : Int32) = 0 by decide)]
            by_cases d1 : p2 < 0
            · rw [if_pos d1]
            · rw [if_neg d1, if_neg (fun q => lt_nle.mp q (l3 _ hin2 d1))]
      · refine ⟨(-1, z_s), ?_, (-1, f_racks), ?_, rfl, RR_mk hF' hV hI hu hw ht hr hs⟩
        · unfold f_X10_lay
          rw [ein1, ob_some, if_pos hin1, if_neg (show ¬ (1 : Int32) = 0 by decide), if_neg h3, r_isG _ hz2, ob_some, if_neg q1, if_pos rfl]
        · unfold f_X9_lay
          rw [if_neg c1, if_neg c2, if_neg h3, e_isG_no q2, ob_some, if_pos rfl]
  · refine ⟨(-1, z_s), ?_, (-1, f_racks), ?_, rfl, RR_mk hF' hV hI hu hw ht hr hs⟩
    · unfold f_X10_lay
      rw [ein1, ob_some, if_neg hin1, if_pos rfl]
    · unfold f_X9_lay
      by_cases d1 : p1 < 0
      · rw [if_pos d1]
      · rw [if_neg d1, if_pos (l3 _ hin1 d1)]
theorem op_move : OP_move RR := by
  intro x_hasImage f_places f_kinds f_weights f_howManyGenerators f_generators f_racks f_howManySeen f_seenFirst f_seenSecond f_seenIs f_seenPlaces f_howManyEvents f_eventWhat f_eventNumber g_places g_kinds g_weights g_howManyGenerators g_generators g_racks g_howManySeen g_seenFirst g_seenSecond g_seenIs g_seenPlaces g_howManyEvents g_eventWhat g_eventNumber v_keys v_asFound v_found v_turns v_places p_keys p_asFound p_found p_turns p_places i_sort i_howOften i_sorts i_moves n_u u_leasts u_howMany u_known n_w w_leasts w_howMany w_known t_signs t_length t_whole t_begins t_ends r_sorts r_numbers r_length sr ln it z_thrown z_s z_kept z_isKept z_moveMany z_moves z_hands z_troubles z_troubleSorts z_troubleNumbers z_asked z_paint z_leasts z_isSeen z_classMany z_types z_typeCounts z_typeMany z_text z_signs z_at z_lacks z_clauses z_begun z_letters z_firsts z_seconds z_aside z_sorts z_sizes z_items hR p1 p2
  obtain ⟨n, k, m, gk, w, B, hF, hV, hI, hu, hw, ht, hr, hs⟩ := hR
  have hF' := hF
  obtain ⟨hb, ⟨rfl, rfl, rfl⟩, ⟨hz0, hz1, hz2⟩, hw4, hG, hK, hS, hE⟩ := hF
  have hV' := hV
  obtain ⟨hB, ⟨hKy, hAs, rfl, rfl⟩, rfl⟩ := hV
  have hm4 := hb.2.2.2.2
  have hKS := KS_of hb hG hB
  have hl := hKS.2
  have hL := srt_len B
  obtain ⟨mv', hd', hM, e1⟩ := r_moves_ (mv := z_moves) (hd := z_hands) (mm := z_moveMany) hb.2.1 hm4 (ZG_of hz0 hz2 hG) (fun i hi => (hG i hi).1) hB
  have hpos : 0 < B.length := List.length_pos_of_mem hKS.1.2.2.1
  have ein : f_X10_in (p1.toInt64) 0 ((nI B.length - 1 : Int32).toInt64) = some (if (0 : Int32) ≤ p1 ∧ p1 ≤ nI B.length - 1 then 1 else 0) := r_inN (l := 0) (by decide) rfl
  rw [nI_dec hpos] at ein
  by_cases hin : (0 : Int32) ≤ p1 ∧ p1 ≤ nI (B.length - 1)
  · obtain ⟨v, -, hv, rfl⟩ := in_nat (l := 0) (h := B.length - 1) (by omega) (by decide) hin
    have hvL : v < (srt B).length := by omega
    have hKv := KS_key hKS hvL
    have ec : f_X9_move (nI v) p2 (nI n) v_keys (nI B.length) = some (if p2 = 0 then nI (num n ((srt B).getD v 0)) else if p2 = 1 then nI ((srt B).getD v 0 % 2) else if p2 = 2 then nI (typ n (rwf n ((srt B).getD v 0 / 2))) else -1) := by
      unfold f_X9_move
      rw [if_neg (nlt_le.mpr hin.1), if_pos (nI_lt (by omega) (by omega)), qe_rd _ (by omega) (by decide), ob_some, hKy v hvL, e_tellMove p2 hb.1 hb.2.1 hKv, ob_some]
    have ed : ∀ r, f_X10_move (nI v) p2 z_s z_moveMany z_moves z_hands z_asked = r ↔ (if p2 = 0 then ((f_X10_numberOf (nI v) z_s mv').bind fun t9 => some (t9, nI B.length, mv', hd', z_asked)) else (if p2 = 1 then ((q_rd hd' 121 (nI v)).bind fun t8 => some (t8, nI B.length, mv', hd', z_asked)) else (if p2 = 2 then ((f_X10_typeOf (nI v) z_s mv' z_asked).bind fun t7 => some (t7.1, nI B.length, mv', hd', t7.2)) else (some ((-1), nI B.length, mv', hd', z_asked))))) = r := fun r => by
      unfold f_X10_move
      rw [e1, ob_some, nI_dec hpos, ein, ob_some, if_pos hin, if_neg (show ¬ (1 : Int32) = 0 by decide)]
    by_cases h0 : p2 = 0
    · refine ⟨(nI (num n ((srt B).getD v 0)), nI B.length, mv', hd', z_asked), (ed _).mpr ?_, _, ec, by rw [if_pos h0], RR_mk hF' hV' hI hu hw ht hr hs⟩
      rw [if_pos h0, r_numberOf hb.2.1 hz0 (by omega) (hM v hvL).1, ob_some]
    · by_cases h1 : p2 = 1
      · refine ⟨(nI ((srt B).getD v 0 % 2), nI B.length, mv', hd', z_asked), (ed _).mpr ?_, _, ec, by rw [if_neg h0, if_pos h1], RR_mk hF' hV' hI hu hw ht hr hs⟩
        rw [if_neg h0, if_pos h1, qe_rd _ (by omega) (by decide), ob_some, (hM v hvL).2]
      · by_cases h2 : p2 = 2
        · obtain ⟨as', e2⟩ := r_typeOf (as := z_asked) hb.1 hb.2.1 hz0 (show v < 121 by omega) hKv (hM v hvL).1
          refine ⟨(nI (typ n (rwf n ((srt B).getD v 0 / 2))), nI B.length, mv', hd', as'), (ed _).mpr ?_, _, ec, by rw [if_neg h0, if_neg h1, if_pos h2], RR_mk hF' hV' hI hu hw ht hr hs⟩
          rw [if_neg h0, if_neg h1, if_pos h2, e2, ob_some]
        · refine ⟨(-1, nI B.length, mv', hd', z_asked), (ed _).mpr ?_, _, ec, by rw [if_neg h0, if_neg h1, if_neg h2], RR_mk hF' hV' hI hu hw ht hr hs⟩
          rw [if_neg h0, if_neg h1, if_neg h2]
  · refine ⟨(-1, nI B.length, mv', hd', z_asked), ?_, -1, ?_, rfl, RR_mk hF' hV' hI hu hw ht hr hs⟩
    · unfold f_X10_move
      rw [e1, ob_some, nI_dec hpos, ein, ob_some, if_neg hin, if_pos rfl]
    · unfold f_X9_move
      by_cases d1 : p1 < 0
      · rw [if_pos d1]
      · rw [if_neg d1, if_neg]
        intro q
        obtain ⟨v, hv, rfl⟩ := nI_of d1
        have := (nI_ltI hv (by omega)).mp q
        exact hin ⟨nlt_le.mp d1, nI_le (by omega) (by omega)⟩
