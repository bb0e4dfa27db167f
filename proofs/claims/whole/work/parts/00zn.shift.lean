-- ===== the steps: shift =====
/-- the row that a copy of n items from S to D leaves -/
def cpd (Z : Nat → Int64) (S D n : Nat) : Nat → Int64 := fun x => if D ≤ x ∧ x < D + n then Z (S + (x - D)) else Z x
theorem r_shift_up {t u a c n : Nat} {Z0 : Nat → Int64} (ht : t < 6) (hu : u < 6) (ha : a + n ≤ 60) (hc : c + n ≤ 60) (hd : 60 * u + c ≤ 60 * t + a ∨ 60 * t + a + n ≤ 60 * u + c) (K : Int32 → (Nat → Int64) → Option (Int32 × (Nat → Int64))) : ∀ d i fu Z, i + d = n → d < fu → (∀ x, Z x = cpd Z0 (60 * t + a) (60 * u + c) i x) → ∃ Z', f_X10_shift_L122 (nI t) (nI a) (nI u) (nI c) (nI n) 0 K fu (nI i) Z = K (nI n) Z' ∧ ∀ x, Z' x = cpd Z0 (60 * t + a) (60 * u + c) n x
  | d, i, 0, _, _, h, _ => by omega
  | 0, i, fu + 1, Z, hi, _, hZ => by
    obtain rfl : i = n := by omega
    rw [f_X10_shift_L122, if_pos (nI_le (by omega) (by omega))]
    exact ⟨Z, rfl, hZ⟩
  | d + 1, i, fu + 1, Z, hi, hfu, hZ => by
    have h1 : Z (60 * t + a + i) = Z0 (60 * t + a + i) := by
      rw [hZ]
      exact if_neg (by omega)
    obtain ⟨Z', e, h2⟩ := r_shift_up ht hu ha hc hd K d (i + 1) fu (vp_updL Z (60 * u + c + i) (Z (60 * t + a + i))) (by omega) (by omega) (fun x => by
      by_cases q : x = 60 * u + c + i
      · subst q
        rw [pk_uLs, h1]
        unfold cpd
        rw [if_pos (by omega), show 60 * u + c + i - (60 * u + c) = i by omega]
      · rw [pk_uLn q, hZ]
        unfold cpd
        by_cases g : 60 * u + c ≤ x ∧ x < 60 * u + c + i
        · rw [if_pos g, if_pos (by omega)]
        · rw [if_neg g, if_neg (by omega)])
    refine ⟨Z', ?_, h2⟩
    rw [f_X10_shift_L122, if_neg (nI_ge (by omega) (by omega)), if_pos rfl, li_60, nI_mul, nI_add, nI_add, qe_rd _ (by omega) (by decide), ob_some, nI_mul, nI_add, nI_add, qe_wl _ _ (by omega) (by decide), ob_some, nI_1]
    exact e
theorem r_shift_dn {t a c n : Nat} {Z0 : Nat → Int64} (ht : t < 6) (ha : a + n ≤ 60) (hc : c + n ≤ 60) (hd : a < c) (K : Int32 → (Nat → Int64) → Option (Int32 × (Nat → Int64))) : ∀ d i fu Z, i + d = n → d < fu → (∀ x, Z x = cpd Z0 (60 * t + a + (n - i)) (60 * t + c + (n - i)) i x) → ∃ Z', f_X10_shift_L122 (nI t) (nI a) (nI t) (nI c) (nI n) 1 K fu (nI i) Z = K (nI n) Z' ∧ ∀ x, Z' x = cpd Z0 (60 * t + a) (60 * t + c) n x
  | d, i, 0, _, _, h, _ => by omega
  | 0, i, fu + 1, Z, hi, _, hZ => by
    obtain rfl : i = n := by omega
    rw [f_X10_shift_L122, if_pos (nI_le (by omega) (by omega))]
    rw [Nat.sub_self] at hZ
    exact ⟨Z, rfl, hZ⟩
  | d + 1, i, fu + 1, Z, hi, hfu, hZ => by
    have h1 : Z (60 * t + a + (n - 1 - i)) = Z0 (60 * t + a + (n - 1 - i)) := by
      rw [hZ]
      exact if_neg (by omega)
    obtain ⟨Z', e, h2⟩ := r_shift_dn ht ha hc hd K d (i + 1) fu (vp_updL Z (60 * t + c + (n - 1 - i)) (Z (60 * t + a + (n - 1 - i)))) (by omega) (by omega) (fun x => by
      by_cases q : x = 60 * t + c + (n - 1 - i)
      · subst q
        rw [pk_uLs, h1]
        unfold cpd
        rw [if_pos (by omega)]
        congr 1
        omega
      · rw [pk_uLn q, hZ]
        unfold cpd
        by_cases g : 60 * t + c + (n - i) ≤ x ∧ x < 60 * t + c + (n - i) + i
        · rw [if_pos g, if_pos (by omega)]
          congr 1
          omega
        · rw [if_neg g, if_neg (by omega)])
    refine ⟨Z', ?_, h2⟩
    rw [f_X10_shift_L122, if_neg (nI_ge (by omega) (by omega)), if_neg (show ¬ (1 : Int32) = 0 by decide), li_60, nI_mul, nI_add, li_1, nI_sub (by omega), nI_sub (by omega), nI_add, qe_rd _ (by omega) (by decide), ob_some, nI_add, nI_add, qe_wl _ _ (by omega) (by decide), ob_some, nI_add]
    exact e
/-- room for n items from x on -/
theorem rm_lt {l a n : Nat} (hl : l ≤ 60) (ha : a < 2 ^ 31) (hn : n < 2 ^ 31) : (nI l - nI n < nI a) ↔ l < a + n := by
  have e1 := nI_toInt (n := l) (by omega)
  have e2 := nI_toInt (n := n) hn
  have e3 := nI_toInt (n := a) ha
  rw [fa_lt, fb_subI (by omega) (by omega), e1, e2, e3]
  omega
theorem rm_dec {l n : Nat} (x : Int32) (hl : l ≤ 60) (hn : n < 2 ^ 31) : (∃ a, x = nI a ∧ a + n ≤ l ∧ f_X6_hasRoom x (nI n) (nI l) = some 1 ∧ ¬ x < 0 ∧ ¬ (nI l - nI n < x)) ∨ (f_X6_hasRoom x (nI n) (nI l) = some 0 ∧ (x < 0 ∨ nI l - nI n < x)) := by
  unfold f_X6_hasRoom
  by_cases h0 : x < 0
  · exact Or.inr ⟨if_pos h0, Or.inl h0⟩
  · obtain ⟨a, ha, rfl⟩ := nI_of h0
    by_cases h1 : nI l - nI n < nI a
    · exact Or.inr ⟨by rw [if_neg h0, if_pos h1], Or.inr h1⟩
    · refine Or.inl ⟨a, rfl, ?_, by rw [if_neg h0, if_neg h1], h0, h1⟩
      have h2 : ¬ l < a + n := fun q => h1 ((rm_lt hl ha hn).mpr q)
      omega
theorem m1_ne {s : Nat} (h : s ≤ 4) : ¬ nI s = (-1 : Int32) := nI_neg1 (by omega)
theorem e_hold1 {s : Nat} (h : s ≤ 4) : f_X6_holds (nI s) = some 1 := by
  unfold f_X6_holds
  rw [if_neg (m1_ne h)]
theorem e_hold0 : f_X6_holds (-1) = some 0 := rfl
theorem op_shift : OP_shift RR := by
  intro x_hasImage f_places f_kinds f_weights f_howManyGenerators f_generators f_racks f_howManySeen f_seenFirst f_seenSecond f_seenIs f_seenPlaces f_howManyEvents f_eventWhat f_eventNumber g_places g_kinds g_weights g_howManyGenerators g_generators g_racks g_howManySeen g_seenFirst g_seenSecond g_seenIs g_seenPlaces g_howManyEvents g_eventWhat g_eventNumber v_keys v_asFound v_found v_turns v_places p_keys p_asFound p_found p_turns p_places i_sort i_howOften i_sorts i_moves n_u u_leasts u_howMany u_known n_w w_leasts w_howMany w_known t_signs t_length t_whole t_begins t_ends r_sorts r_numbers r_length sr ln it z_thrown z_s z_kept z_isKept z_moveMany z_moves z_hands z_troubles z_troubleSorts z_troubleNumbers z_asked z_paint z_leasts z_isSeen z_classMany z_types z_typeCounts z_typeMany z_text z_signs z_at z_lacks z_clauses z_begun z_letters z_firsts z_seconds z_aside z_sorts z_sizes z_items hR p1 p2 p3 p4 p5
  obtain ⟨n, k, m, gk, w, B, hF, hV, hI, hu, hw, ht, hr, hs⟩ := hR
  rcases t_dec p1 with ⟨t, ht6, rfl⟩ | ⟨i1, i2⟩
  · rcases t_dec p3 with ⟨u, hu6, rfl⟩ | ⟨i3, i4⟩
    · obtain ⟨hA, hL, hS0, ⟨l, hl, hL0⟩, hIt⟩ := hs t ht6
      obtain ⟨hA', hL', hS0', ⟨l', hl', hL0'⟩, hIt'⟩ := hs u hu6
      have hs0 : q_rd z_sorts 6 (nI t) = some (sr t) := by rw [qe_rd _ ht6 (by decide), hA]
      have hl0 : q_rd z_sizes 6 (nI t) = some (nI l) := by rw [qe_rd _ ht6 (by decide), ← hL, hL0]
      have hs0' : q_rd z_sorts 6 (nI u) = some (sr u) := by rw [qe_rd _ hu6 (by decide), hA']
      have hl0' : q_rd z_sizes 6 (nI u) = some (nI l') := by rw [qe_rd _ hu6 (by decide), ← hL', hL0']
      -- one statement for both ways of the class
      suffices H : ∃ (v : Int32) (Z I : Nat → Int64), f_X10_shift (nI t) p2 (nI u) p4 p5 z_sorts z_sizes z_items = some (v, Z) ∧ f_X9_shift_u (nI t) p2 (nI u) p4 p5 (sr t) (ln t) (it t) (sr u) (ln u) (it u) = some (v, I) ∧ TP sr ln (va_up it u I) z_sorts z_sizes Z by
        obtain ⟨v, Z, I, e1, e2, hT⟩ := H
        refine ⟨(v, Z), e1, ?_⟩
        by_cases htu : t = u
        · subst htu
          exact Or.inl ⟨t, ht6, rfl, rfl, (v, I), e2, rfl, RR_mk hF hV hI hu hw ht hr hT⟩
        · exact Or.inr (Or.inl ⟨t, u, ht6, hu6, htu, rfl, rfl, (v, I), e2, rfl, RR_mk hF hV hI hu hw ht hr hT⟩)
      rcases hS0 with hm | ⟨s, hs4, hm⟩
      · refine ⟨-11, z_items, it u, ?_, ?_, TP_same hu6 hs⟩
        · unfold f_X10_shift
          rw [t_isT ht6, ob_some, if_neg (show ¬ (1 : Int32) = 0 by decide), t_isT hu6, ob_some, if_neg (show ¬ (1 : Int32) = 0 by decide), hs0, ob_some, if_pos hm]
        · unfold f_X9_shift_u
          rw [t_isC ht6, ob_some, if_neg (show ¬ (1 : Int32) = 0 by decide), t_isC hu6, ob_some, if_neg (show ¬ (1 : Int32) = 0 by decide), hm, e_hold0, ob_some, if_pos rfl]
      rw [hm] at hs0
      rcases hS0' with hm' | ⟨s', hs4', hm'⟩
      · refine ⟨-11, z_items, it u, ?_, ?_, TP_same hu6 hs⟩
        · unfold f_X10_shift
          rw [t_isT ht6, ob_some, if_neg (show ¬ (1 : Int32) = 0 by decide), t_isT hu6, ob_some, if_neg (show ¬ (1 : Int32) = 0 by decide), hs0, ob_some, if_neg (m1_ne hs4), hs0', ob_some, if_pos hm']
        · unfold f_X9_shift_u
          rw [t_isC ht6, ob_some, if_neg (show ¬ (1 : Int32) = 0 by decide), t_isC hu6, ob_some, if_neg (show ¬ (1 : Int32) = 0 by decide), hm, e_hold1 hs4, ob_some, if_neg (show ¬ (1 : Int32) = 0 by decide), hm', e_hold0, ob_some, if_pos rfl]
      rw [hm'] at hs0'
      have R1 : f_X10_shift (nI t) p2 (nI u) p4 p5 z_sorts z_sizes z_items = if nI s = nI s' then (if p5 < 0 then (some ((-13), z_items)) else (if p2 < 0 then (some ((-13), z_items)) else (if p4 < 0 then (some ((-13), z_items)) else (if (nI l - p5) < p2 then (some ((-13), z_items)) else (if p4 ≤ (nI l' - p5) then (if nI t = nI u then (if p4 ≤ p2 then (f_X10_shift_L122 (nI t) p2 (nI u) p4 p5 0 (fun l7_22 z_items_22 => some (p5, z_items_22)) q_fu 0 z_items) else (f_X10_shift_L122 (nI t) p2 (nI u) p4 p5 1 (fun l7_23 z_items_23 => some (p5, z_items_23)) q_fu 0 z_items)) else (f_X10_shift_L122 (nI t) p2 (nI u) p4 p5 0 (fun l7_20 z_items_20 => some (p5, z_items_20)) q_fu 0 z_items)) else (some ((-13), z_items))))))) else (some ((-12), z_items)) := by
        unfold f_X10_shift
        rw [t_isT ht6, ob_some, if_neg (show ¬ (1 : Int32) = 0 by decide), t_isT hu6, ob_some, if_neg (show ¬ (1 : Int32) = 0 by decide), hs0, ob_some, if_neg (m1_ne hs4), hs0', ob_some, if_neg (m1_ne hs4'), ob_some, ob_some, hl0, hl0']
        rfl
      have R2 : f_X9_shift_u (nI t) p2 (nI u) p4 p5 (sr t) (ln t) (it t) (sr u) (ln u) (it u) = if nI s = nI s' then (if p5 < 0 then (some ((-13), it u)) else ((f_X6_hasRoom p2 p5 (nI l)).bind fun t11 => if t11 = 0 then (some ((-13), it u)) else ((f_X6_hasRoom p4 p5 (nI l')).bind fun t13 => if t13 = 0 then (some ((-13), it u)) else ((q_cp (it t) (it u) 60 60 p2 p4 p5).bind fun t15 => some (p5, t15))))) else (some ((-12), it u)) := by
        unfold f_X9_shift_u
        rw [t_isC ht6, ob_some, if_neg (show ¬ (1 : Int32) = 0 by decide), t_isC hu6, ob_some, if_neg (show ¬ (1 : Int32) = 0 by decide), hm, e_hold1 hs4, ob_some, if_neg (show ¬ (1 : Int32) = 0 by decide), hm', e_hold1 hs4', ob_some, if_neg (show ¬ (1 : Int32) = 0 by decide), hL0, hL0']
      rw [R1, R2]
      by_cases hse : nI s = nI s'
      · rw [if_pos hse, if_pos hse]
        by_cases h5 : p5 < 0
        · exact ⟨-13, z_items, it u, if_pos h5, if_pos h5, TP_same hu6 hs⟩
        · rw [if_neg h5, if_neg h5]
          obtain ⟨n, hn, rfl⟩ := nI_of h5
          rcases rm_dec p2 hl hn with ⟨a, rfl, ha, e1, e2, e3⟩ | ⟨e1, e2⟩
          · rw [e1, ob_some, if_neg (show ¬ (1 : Int32) = 0 by decide), if_neg e2, if_neg e3]
            rcases rm_dec p4 hl' hn with ⟨c, rfl, hc, e4, e5, e6⟩ | ⟨e4, e5⟩
            · rw [e4, ob_some, if_neg (show ¬ (1 : Int32) = 0 by decide), if_neg e5, if_pos (nlt_le.mp e6), qe_cp _ _ (by omega) (by omega) (by decide) (by decide), ob_some]
              have hfin : ∀ Z' : Nat → Int64, (∀ x, Z' x = cpd z_items (60 * t + a) (60 * u + c) n x) → TP sr ln (va_up it u (va_cpy (it t) (it u) a c n)) z_sorts z_sizes Z' := by
                intro Z' hZ'
                refine TP_it hs (fun j hj => ?_) (fun x hx => ?_)
                · rw [hZ']
                  unfold cpd va_cpy
                  by_cases q : c ≤ j ∧ j < c + n
                  · rw [if_pos q, if_pos (by omega), hIt _ (by omega)]
                    congr 1
                    omega
                  · rw [if_neg q, if_neg (by omega), hIt' j hj]
                · rw [hZ']
                  unfold cpd
                  rw [if_neg (by omega)]
              have hz : ∀ x, z_items x = cpd z_items (60 * t + a) (60 * u + c) 0 x := fun x => (if_neg (by omega)).symm
              by_cases htu : t = u
              · subst htu
                rw [if_pos rfl]
                by_cases hac : nI c ≤ nI a
                · rw [if_pos hac]
                  have hac' := (nI_leI (by omega) (by omega)).mp hac
                  obtain ⟨Z', e, hZ'⟩ := r_shift_up (a := a) (c := c) (n := n) (Z0 := z_items) ht6 hu6 (by omega) (by omega) (Or.inl (by omega)) (fun _ z => some (nI n, z)) n 0 q_fu z_items (by omega) (fu_lt (by omega)) hz
                  exact ⟨nI n, Z', _, e, rfl, hfin Z' hZ'⟩
                · rw [if_neg hac]
                  have hac' : a < c := by
                    have h2 : ¬ c ≤ a := fun q => hac ((nI_leI (by omega) (by omega)).mpr q)
                    omega
                  obtain ⟨Z', e, hZ'⟩ := r_shift_dn (a := a) (c := c) (n := n) (Z0 := z_items) ht6 (by omega) (by omega) hac' (fun _ z => some (nI n, z)) n 0 q_fu z_items (by omega) (fu_lt (by omega)) (fun x => (if_neg (by omega)).symm)
                  exact ⟨nI n, Z', _, e, rfl, hfin Z' hZ'⟩
              · rw [if_neg (fun q => htu (nI_inj (by omega) (by omega) q))]
                obtain ⟨Z', e, hZ'⟩ := r_shift_up (a := a) (c := c) (n := n) (Z0 := z_items) ht6 hu6 (by omega) (by omega) (by omega) (fun _ z => some (nI n, z)) n 0 q_fu z_items (by omega) (fu_lt (by omega)) hz
                exact ⟨nI n, Z', _, e, rfl, hfin Z' hZ'⟩
            · rw [e4, ob_some, if_pos rfl]
              refine ⟨-13, z_items, it u, ?_, rfl, TP_same hu6 hs⟩
              by_cases q : p4 < 0
              · rw [if_pos q]
              · rw [if_neg q, if_neg (lt_nle0.mp (e5.resolve_left q))]
          · rw [e1, ob_some, if_pos rfl]
            refine ⟨-13, z_items, it u, ?_, rfl, TP_same hu6 hs⟩
            by_cases q : p2 < 0
            · rw [if_pos q]
            · rw [if_neg q, if_pos (e2.resolve_left q)]
              split <;> rfl
      · exact ⟨-12, z_items, it u, if_neg hse, if_neg hse, TP_same hu6 hs⟩
    · refine ⟨(-1, z_items), ?_, Or.inr (Or.inr ⟨-1, ?_, rfl, RR_mk hF hV hI hu hw ht hr hs⟩)⟩
      · unfold f_X10_shift
        rw [t_isT ht6, ob_some, if_neg (show ¬ (1 : Int32) = 0 by decide), i3, ob_some, if_pos rfl]
      · unfold f_X9_shift_n
        rw [t_isC ht6, ob_some, if_neg (show ¬ (1 : Int32) = 0 by decide), i4, ob_some, if_pos rfl]
  · refine ⟨(-1, z_items), ?_, Or.inr (Or.inr ⟨-1, ?_, rfl, RR_mk hF hV hI hu hw ht hr hs⟩)⟩
    · unfold f_X10_shift
      rw [i1, ob_some, if_pos rfl]
    · unfold f_X9_shift_n
      rw [i2, ob_some, if_pos rfl]
