-- ===== the steps: tape, item, peek, shift =====
theorem t_dec (x : Int32) : (∃ t : Nat, t < 6 ∧ x = nI t) ∨ (f_X10_isTape x = some 0 ∧ f_X9_isTape x = some 0) := by
  rcases row_dec x (c := 6) (by decide) (by decide) with h | ⟨h1, h2⟩
  · exact Or.inl h
  · right
    constructor
    · unfold f_X10_isTape
      rw [show f_X10_in (x.toInt64) 0 5 = some (if (0 : Int32) ≤ x ∧ x ≤ 5 then 1 else 0) from r_inN (by decide) (by decide), if_neg (show ¬ ((0 : Int32) ≤ x ∧ x ≤ 5) from h1), ob_some, qe_rz0, ob_some]
    · unfold f_X9_isTape
      by_cases h3 : x < 0
      · rw [if_pos h3]
      · rw [if_neg h3, if_pos (show (6 : Int32) ≤ x from h2.resolve_left h3)]
theorem t_isT : ∀ {t : Nat}, t < 6 → f_X10_isTape (nI t) = some 1 := by
  intro t ht
  unfold f_X10_isTape
  rw [show f_X10_in ((nI t).toInt64) 0 5 = some (if (0 : Int32) ≤ nI t ∧ nI t ≤ 5 then 1 else 0) from r_inN (by decide) (by decide), if_pos (show (0 : Int32) ≤ nI t ∧ nI t ≤ 5 from row_in (c := 6) ht (by decide)), ob_some, qe_rz1, ob_some]
theorem t_isC {t : Nat} (ht : t < 6) : f_X9_isTape (nI t) = some 1 := by
  unfold f_X9_isTape
  rw [if_neg (nI_pos (by omega)), if_neg (show ¬ (6 : Int32) ≤ nI t from nI_ge (a := t) (b := 6) (by omega) (by omega))]
theorem TP_upd {sr ln zs zn zs' zn' : Nat → Int32} {it : Nat → Nat → Int64} {zi Z : Nat → Int64} {I : Nat → Int64} {t : Nat} {a b : Int32} (h : TP sr ln it zs zn zi) (h1 : zs' t = a) (h2 : ∀ x, x ≠ t → zs' x = zs x) (h3 : zn' t = b) (h4 : ∀ x, x ≠ t → zn' x = zn x) (h5 : a = -1 ∨ ∃ s, s ≤ 4 ∧ a = nI s) (h6 : ∃ l, l ≤ 60 ∧ b = nI l) (h7 : ∀ j, j < 60 → I j = Z (60 * t + j)) (h8 : ∀ x, ¬ (60 * t ≤ x ∧ x < 60 * t + 60) → Z x = zi x) : TP (upd sr t a) (upd ln t b) (va_up it t I) zs' zn' Z := by
  intro x hx
  by_cases e : x = t
  · subst e
    rw [upd_at, upd_at, va_up_self]
    exact ⟨h1.symm, h3.symm, h5, h6, h7⟩
  · obtain ⟨g1, g2, g3, g4, g5⟩ := h x hx
    rw [upd_ne _ e, upd_ne _ e, va_up_ne _ _ e]
    refine ⟨g1.trans (h2 x e).symm, g2.trans (h4 x e).symm, g3, g4, fun j hj => (g5 j hj).trans (h8 _ ?_).symm⟩
    omega
theorem TP_it {sr ln zs zn : Nat → Int32} {it : Nat → Nat → Int64} {zi Z : Nat → Int64} {I : Nat → Int64} {t : Nat} (h : TP sr ln it zs zn zi) (h7 : ∀ j, j < 60 → I j = Z (60 * t + j)) (h8 : ∀ x, ¬ (60 * t ≤ x ∧ x < 60 * t + 60) → Z x = zi x) : TP sr ln (va_up it t I) zs zn Z := by
  intro x hx
  obtain ⟨g1, g2, g3, g4, g5⟩ := h x hx
  by_cases e : x = t
  · subst e
    rw [va_up_self]
    exact ⟨g1, g2, g3, g4, h7⟩
  · rw [va_up_ne _ _ e]
    refine ⟨g1, g2, g3, g4, fun j hj => (g5 j hj).trans (h8 _ ?_).symm⟩
    omega
theorem TP_same {sr ln zs zn : Nat → Int32} {it : Nat → Nat → Int64} {zi : Nat → Int64} {t : Nat} (ht : t < 6) (h : TP sr ln it zs zn zi) : TP sr ln (va_up it t (it t)) zs zn zi := TP_it h (h t ht).2.2.2.2 (fun _ _ => rfl)
theorem TP_same3 {sr ln zs zn : Nat → Int32} {it : Nat → Nat → Int64} {zi : Nat → Int64} {t : Nat} (ht : t < 6) (h : TP sr ln it zs zn zi) : TP (upd sr t (sr t)) (upd ln t (ln t)) (va_up it t (it t)) zs zn zi := TP_upd h (h t ht).1.symm (fun _ _ => rfl) (h t ht).2.1.symm (fun _ _ => rfl) (h t ht).2.2.1 (h t ht).2.2.2.1 (h t ht).2.2.2.2 (fun _ _ => rfl)
theorem r_clear {t : Nat} (ht : t < 6) (K : Int32 → (Nat → Int64) → Option (Int32 × (Nat → Int32) × (Nat → Int32) × (Nat → Int64))) : ∀ d j fu Z, j + d = 60 → d < fu → ∃ Z', f_X10_tape_L75 (nI t) K fu (nI j) Z = K (nI 60) Z' ∧ (∀ x, 60 * t + j ≤ x → x < 60 * t + 60 → Z' x = 0) ∧ ∀ x, ¬ (60 * t + j ≤ x ∧ x < 60 * t + 60) → Z' x = Z x
  | d, j, 0, _, _, h => by omega
  | 0, j, fu + 1, Z, hj, _ => by
    obtain rfl : j = 60 := by omega
    rw [f_X10_tape_L75, if_pos (show (60 : Int32) ≤ nI 60 by decide)]
    exact ⟨Z, rfl, fun x h1 h2 => by omega, fun x _ => rfl⟩
  | d + 1, j, fu + 1, Z, hj, hfu => by
    obtain ⟨Z', e, h1, h2⟩ := r_clear ht K d (j + 1) fu (vp_updL Z (60 * t + j) 0) (by omega) (by omega)
    refine ⟨Z', ?_, fun x g1 g2 => ?_, fun x g => ?_⟩
    · rw [f_X10_tape_L75, if_neg (show ¬ (60 : Int32) ≤ nI j from nI_ge (a := j) (b := 60) (by omega) (by omega)), li_60, nI_mul, nI_add, qe_wl _ _ (by omega) (by decide), ob_some, nI_1]
      exact e
    · by_cases q : x = 60 * t + j
      · subst q
        rw [h2 _ (by omega), pk_uLs]
      · exact h1 x (by omega) g2
    · rw [h2 x (by omega), pk_uLn (by omega)]
theorem e_clear (K : Int32 → (Nat → Int64) → Option (Int32 × Int32 × (Nat → Int64))) : ∀ d j fu Z, j + d = 60 → d < fu → ∃ Z', f_X6_hold_L12 K fu (nI j) Z = K (nI 60) Z' ∧ (∀ x, j ≤ x → x < 60 → Z' x = 0) ∧ ∀ x, x < j → Z' x = Z x
  | d, j, 0, _, _, h => by omega
  | 0, j, fu + 1, Z, hj, _ => by
    obtain rfl : j = 60 := by omega
    rw [f_X6_hold_L12, if_pos (show (60 : Int32) ≤ nI 60 by decide)]
    exact ⟨Z, rfl, fun x h1 h2 => by omega, fun x _ => rfl⟩
  | d + 1, j, fu + 1, Z, hj, hfu => by
    obtain ⟨Z', e, h1, h2⟩ := e_clear K d (j + 1) fu (vp_updL Z j 0) (by omega) (by omega)
    refine ⟨Z', ?_, fun x g1 g2 => ?_, fun x g => ?_⟩
    · rw [f_X6_hold_L12, if_neg (show ¬ (60 : Int32) ≤ nI j from nI_ge (a := j) (b := 60) (by omega) (by omega)), qe_wl _ _ (by omega) (by decide), ob_some, nI_1]
      exact e
    · by_cases q : x = j
      · subst q
        rw [h2 _ (by omega), pk_uLs]
      · exact h1 x (by omega) g2
    · rw [h2 x (by omega), pk_uLn (by omega)]
theorem op_tape : OP_tape RR := by
  intro x_hasImage f_places f_kinds f_weights f_howManyGenerators f_generators f_racks f_howManySeen f_seenFirst f_seenSecond f_seenIs f_seenPlaces f_howManyEvents f_eventWhat f_eventNumber g_places g_kinds g_weights g_howManyGenerators g_generators g_racks g_howManySeen g_seenFirst g_seenSecond g_seenIs g_seenPlaces g_howManyEvents g_eventWhat g_eventNumber v_keys v_asFound v_found v_turns v_places p_keys p_asFound p_found p_turns p_places i_sort i_howOften i_sorts i_moves n_u u_leasts u_howMany u_known n_w w_leasts w_howMany w_known t_signs t_length t_whole t_begins t_ends r_sorts r_numbers r_length sr ln it z_thrown z_s z_kept z_isKept z_moveMany z_moves z_hands z_troubles z_troubleSorts z_troubleNumbers z_asked z_paint z_leasts z_isSeen z_classMany z_types z_typeCounts z_typeMany z_text z_signs z_at z_lacks z_clauses z_begun z_letters z_firsts z_seconds z_aside z_sorts z_sizes z_items hR p1 p2 p3
  obtain ⟨n, k, m, gk, w, B, hF, hV, hI, hu, hw, ht, hr, hs⟩ := hR
  have ein : f_X10_in (p2.toInt64) (-1) 4 = some (if (-1 : Int32) ≤ p2 ∧ p2 ≤ 4 then 1 else 0) := r_inN (by decide) (by decide)
  rcases t_dec p1 with ⟨t, ht6, rfl⟩ | ⟨i1, i2⟩
  · obtain ⟨hA, hL, hS0, hL0, hIt⟩ := hs t ht6
    -- laid anew
    have hnew : ∀ (x y : Int32), (x = -1 ∨ ∃ s, s ≤ 4 ∧ x = nI s) → (∃ l, l ≤ 60 ∧ y = nI l) → ∃ Z I, f_X10_tape_L75 (nI t) (fun _ z => some (1, upd z_sorts t x, upd z_sizes t y, z)) q_fu 0 z_items = some (1, upd z_sorts t x, upd z_sizes t y, Z) ∧ f_X6_hold x y (sr t) (ln t) (it t) = some (x, y, I) ∧ TP (upd sr t x) (upd ln t y) (va_up it t I) (upd z_sorts t x) (upd z_sizes t y) Z := by
      intro x y hx hy
      obtain ⟨Z, e1, g1, g2⟩ := r_clear ht6 (fun _ z => some (1, upd z_sorts t x, upd z_sizes t y, z)) 60 0 q_fu z_items (by omega) (fu_lt (by omega))
      obtain ⟨I, e2, g3, -⟩ := e_clear (fun _ z => some (x, y, z)) 60 0 q_fu (it t) (by omega) (fu_lt (by omega))
      exact ⟨Z, I, e1, e2, TP_upd hs (upd_at _ _ _) (fun _ h => upd_ne _ h) (upd_at _ _ _) (fun _ h => upd_ne _ h) hx hy (fun j hj => (g3 j (by omega) hj).trans (g1 _ (by omega) (by omega)).symm) (fun x h => g2 x (by omega))⟩
    by_cases hm1 : p2 = -1
    · subst hm1
      obtain ⟨Z, I, e1, e2, hT⟩ := hnew (-1) 0 (Or.inl rfl) ⟨0, by omega, rfl⟩
      have hin : (-1 : Int32) ≤ -1 ∧ (-1 : Int32) ≤ 4 := by decide
      have hL : f_X10_tape (nI t) (-1) p3 z_sorts z_sizes z_items = some (1, upd z_sorts t (-1), upd z_sizes t 0, Z) := by
        unfold f_X10_tape
        rw [t_isT ht6, ob_some, if_neg (show ¬ (1 : Int32) = 0 by decide), ein, ob_some, if_pos hin, if_neg (show ¬ (1 : Int32) = 0 by decide), if_pos rfl, if_pos rfl, qe_wt _ _ ht6 (by decide), ob_some, if_pos rfl, qe_wt _ _ ht6 (by decide), ob_some]
        exact e1
      refine ⟨_, hL, Or.inl ⟨t, ht6, rfl, (1, -1, 0, I), ?_, rfl, RR_mk hF hV hI hu hw ht hr hT⟩⟩
      unfold f_X9_tape_t
      rw [t_isC ht6, ob_some, if_neg (show ¬ (1 : Int32) = 0 by decide), if_pos rfl, e2, ob_some]
    · by_cases hin : (-1 : Int32) ≤ p2 ∧ p2 ≤ 4
      · have hin0 : (0 : Int32) ≤ p2 := by
          have := hin.1
          rw [fa_le] at this ⊢
          have h0 : p2.toInt ≠ -1 := fun q => hm1 (Int32.toInt_inj.mp q)
          rw [show (0 : Int32).toInt = 0 from rfl]
          rw [show (-1 : Int32).toInt = -1 from rfl] at this
          omega
        obtain ⟨s, -, hs4, rfl⟩ := in_nat (l := 0) (h := 4) (by decide) (by decide) ⟨hin0, hin.2⟩
        have hc1 : ¬ nI s < 0 := nI_pos (by omega)
        have hc2 : ¬ (4 : Int32) < nI s := nlt_le.mpr (nI_le (a := s) (b := 4) (by omega) (by omega))
        by_cases h60 : p3 ≤ 60
        · by_cases h0 : (0 : Int32) ≤ p3
          · obtain ⟨l, -, hl, rfl⟩ := in_nat (l := 0) (h := 60) (by decide) (by decide) ⟨h0, h60⟩
            obtain ⟨Z, I, e1, e2, hT⟩ := hnew (nI s) (nI l) (Or.inr ⟨s, hs4, rfl⟩) ⟨l, hl, rfl⟩
            refine ⟨(1, upd z_sorts t (nI s), upd z_sizes t (nI l), Z), ?_, Or.inl ⟨t, ht6, rfl, (1, nI s, nI l, I), ?_, rfl, RR_mk hF hV hI hu hw ht hr hT⟩⟩
            · unfold f_X10_tape
              rw [t_isT ht6, ob_some, if_neg (show ¬ (1 : Int32) = 0 by decide), ein, ob_some, if_pos hin, if_neg (show ¬ (1 : Int32) = 0 by decide), if_neg hm1, if_pos h60, if_neg hm1, if_pos h0, qe_wt _ _ ht6 (by decide), ob_some, if_neg hm1, qe_wt _ _ ht6 (by decide), ob_some]
              exact e1
            · unfold f_X9_tape_t
              rw [t_isC ht6, ob_some, if_neg (show ¬ (1 : Int32) = 0 by decide), if_neg hm1, if_neg hc1, if_neg hc2, if_pos h60, if_pos h0, e2, ob_some]
          · refine ⟨(-14, z_sorts, z_sizes, z_items), ?_, Or.inl ⟨t, ht6, rfl, (-14, sr t, ln t, it t), ?_, rfl, RR_mk hF hV hI hu hw ht hr (TP_same3 ht6 hs)⟩⟩
            · unfold f_X10_tape
              rw [t_isT ht6, ob_some, if_neg (show ¬ (1 : Int32) = 0 by decide), ein, ob_some, if_pos hin, if_neg (show ¬ (1 : Int32) = 0 by decide), if_neg hm1, if_pos h60, if_neg hm1, if_neg h0]
            · unfold f_X9_tape_t
              rw [t_isC ht6, ob_some, if_neg (show ¬ (1 : Int32) = 0 by decide), if_neg hm1, if_neg hc1, if_neg hc2, if_pos h60, if_neg h0]
        · refine ⟨(-2, z_sorts, z_sizes, z_items), ?_, Or.inl ⟨t, ht6, rfl, (-2, sr t, ln t, it t), ?_, rfl, RR_mk hF hV hI hu hw ht hr (TP_same3 ht6 hs)⟩⟩
          · unfold f_X10_tape
            rw [t_isT ht6, ob_some, if_neg (show ¬ (1 : Int32) = 0 by decide), ein, ob_some, if_pos hin, if_neg (show ¬ (1 : Int32) = 0 by decide), if_neg hm1, if_neg h60]
          · unfold f_X9_tape_t
            rw [t_isC ht6, ob_some, if_neg (show ¬ (1 : Int32) = 0 by decide), if_neg hm1, if_neg hc1, if_neg hc2, if_neg h60]
      · refine ⟨(-2, z_sorts, z_sizes, z_items), ?_, Or.inl ⟨t, ht6, rfl, (-2, sr t, ln t, it t), ?_, rfl, RR_mk hF hV hI hu hw ht hr (TP_same3 ht6 hs)⟩⟩
        · unfold f_X10_tape
          rw [t_isT ht6, ob_some, if_neg (show ¬ (1 : Int32) = 0 by decide), ein, ob_some, if_neg hin, if_pos rfl]
        · unfold f_X9_tape_t
          rw [t_isC ht6, ob_some, if_neg (show ¬ (1 : Int32) = 0 by decide), if_neg hm1]
          by_cases hc1 : p2 < 0
          · rw [if_pos hc1]
          · have hc2 : (4 : Int32) < p2 := by
              have q : ¬ p2 ≤ 4 := fun q => hin ⟨by
                rw [fa_lt] at hc1
                rw [fa_le, show (-1 : Int32).toInt = -1 from rfl]
                rw [show (0 : Int32).toInt = 0 from rfl] at hc1
                omega, q⟩
              exact lt_nle0.mpr q
            rw [if_neg hc1, if_pos hc2]
  · refine ⟨(-1, z_sorts, z_sizes, z_items), ?_, Or.inr ⟨-1, ?_, rfl, RR_mk hF hV hI hu hw ht hr hs⟩⟩
    · unfold f_X10_tape
      rw [i1, ob_some, if_pos rfl]
    · unfold f_X9_tape_n
      rw [i2, ob_some, if_pos rfl]
