-- ===== the steps: generator =====
/-- the digits of a row, from the last on, that the reference takes -/
def rok (n v i : Nat) : Prop := ∀ j, i ≤ j → j < n → (1 ≤ v / 10 ^ j % 10 ∧ v / 10 ^ j % 10 ≤ n) ∧ ∀ j', j' < j → v / 10 ^ j' % 10 ≠ v / 10 ^ j % 10
theorem r_isRow_L {z : Nat → Int32} {n v : Nat} (hn : n ≤ 6) (hz : z 0 = nI n) (hv : v < 2 ^ 31) : ∀ d i fu M, i + d = n → d < fu → M < 2 ^ 6 → (∀ b, M.testBit b = true ↔ ∃ j, j < i ∧ v / 10 ^ j % 10 = b + 1) →
    (rok n v i → f_X10_isRow_L14 z (fun l2 _ _ => if l2 = 0 then some 1 else some 0) fu (nI (v / 10 ^ i)) (nI M) (nI d - 1) = if v / 10 ^ n = 0 then some 1 else some 0) ∧
    (¬ rok n v i → f_X10_isRow_L14 z (fun l2 _ _ => if l2 = 0 then some 1 else some 0) fu (nI (v / 10 ^ i)) (nI M) (nI d - 1) = some 0)
  | d, i, 0, _, _, h, _, _ => by omega
  | 0, i, fu + 1, M, hi, _, _, _ => by
    obtain rfl : i = n := by omega
    have hq : v / 10 ^ i ≤ v := Nat.div_le_self _ _
    refine ⟨fun _ => ?_, fun h => absurd (fun j h1 h2 => by omega) h⟩
    rw [f_X10_isRow_L14, if_pos nI_dneg]
    by_cases h0 : v / 10 ^ i = 0
    · rw [if_pos h0, h0, if_pos (show nI 0 = (0 : Int32) from rfl)]
    · rw [if_neg h0, if_neg (show ¬ nI (v / 10 ^ i) = (0 : Int32) from fun q => h0 (nI_inj (a := v / 10 ^ i) (b := 0) (by omega) (by omega) q))]
  | d + 1, i, fu + 1, M, hi, hfu, hM6, hM => by
    have hq : v / 10 ^ i ≤ v := Nat.div_le_self _ _
    have e3 : v / 10 ^ i / 10 = v / 10 ^ (i + 1) := by rw [Nat.div_div_eq_div_mul, ← Nat.pow_succ]
    have hD : v / 10 ^ i % 10 < 10 := Nat.mod_lt _ (by decide)
    rw [f_X10_isRow_L14, nI_dec (by omega), Nat.add_sub_cancel, if_neg (nI_pos (by omega)), li_10, qe_rm (by omega) (by omega) (by decide), ob_some]
    by_cases h0 : v / 10 ^ i = 0
    · have hno : ¬ rok n v i := fun h => by
        have := (h i (Nat.le_refl _) (by omega)).1.1
        rw [h0] at this
        omega
      refine ⟨fun h => absurd h hno, fun _ => ?_⟩
      rw [h0, if_pos (show nI 0 ≤ (0 : Int32) by decide)]
    · rw [if_neg (show ¬ nI (v / 10 ^ i) ≤ (0 : Int32) from nI_ge (a := 0) (b := v / 10 ^ i) (Nat.pos_of_ne_zero h0) (by omega)), rd0 hz, ob_some]
      by_cases h1 : 1 ≤ v / 10 ^ i % 10 ∧ v / 10 ^ i % 10 ≤ n
      · rw [nI_dec h1.1, nI_dec (j := n) (by omega), show f_X10_in ((nI (v / 10 ^ i % 10 - 1)).toInt64) 0 ((nI (n - 1)).toInt64) = some (if (0 : Int32) ≤ nI (v / 10 ^ i % 10 - 1) ∧ nI (v / 10 ^ i % 10 - 1) ≤ nI (n - 1) then 1 else 0) from r_inN (by decide) rfl, if_pos (row_in (v := v / 10 ^ i % 10 - 1) (c := n) (by omega) (by omega)), ob_some, if_neg (show ¬ (1 : Int32) = 0 by decide), r_has (by omega) (by omega), ob_some]
        by_cases h2 : M.testBit (v / 10 ^ i % 10 - 1) = true
        · have hno : ¬ rok n v i := fun h => by
            obtain ⟨j, hj, e⟩ := (hM _).mp h2
            exact (h i (Nat.le_refl _) (by omega)).2 j hj (by omega)
          refine ⟨fun h => absurd h hno, fun _ => ?_⟩
          rw [if_pos h2, if_neg (show ¬ (1 : Int32) = 0 by decide)]
        · have hsame : rok n v i ↔ rok n v (i + 1) := by
            refine ⟨fun h j g1 g2 => h j (by omega) g2, fun h j g1 g2 => ?_⟩
            by_cases q : j = i
            · subst q
              refine ⟨h1, fun j' hj' e => h2 ((hM _).mpr ⟨j', hj', ?_⟩)⟩
              omega
            · exact h j (by omega) g2
          have hp6 : 2 ^ (v / 10 ^ i % 10 - 1) < 2 ^ 6 := Nat.pow_lt_pow_right (by decide) (by omega)
          obtain ⟨g1, g2⟩ := r_isRow_L hn hz hv d (i + 1) fu (M ||| 2 ^ (v / 10 ^ i % 10 - 1)) (by omega) (by omega) (Nat.or_lt_two_pow hM6 hp6) (fun b => by
            rw [Nat.testBit_or, Nat.testBit_two_pow, Bool.or_eq_true, decide_eq_true_eq, hM]
            constructor
            · rintro (⟨j, hj, e⟩ | e)
              · exact ⟨j, by omega, e⟩
              · exact ⟨i, by omega, by omega⟩
            · rintro ⟨j, hj, e⟩
              by_cases q : j = i
              · subst q
                exact Or.inr (by omega)
              · exact Or.inl ⟨j, by omega, e⟩)
          rw [if_neg h2, if_pos rfl, qe_dv (by omega) (by omega) (by decide), ob_some, e_bit (by omega), nI_or, e3, show nI d + (-1) = nI d - 1 from (Int32.sub_eq_add_neg _ _).symm, hsame]
          exact ⟨g1, g2⟩
      · have hno : ¬ rok n v i := fun h => h1 (h i (Nat.le_refl _) (by omega)).1
        refine ⟨fun h => absurd h hno, fun _ => ?_⟩
        have hin : f_X10_in ((nI (v / 10 ^ i % 10) - 1 : Int32).toInt64) 0 ((nI n - 1 : Int32).toInt64) = some (if (0 : Int32) ≤ nI (v / 10 ^ i % 10) - 1 ∧ nI (v / 10 ^ i % 10) - 1 ≤ nI n - 1 then 1 else 0) := r_inN (by decide) rfl
        rw [hin, if_neg, ob_some, if_pos rfl]
        by_cases h3 : v / 10 ^ i % 10 = 0
        · rw [h3]
          intro q
          exact absurd q.1 (by decide)
        · rw [nI_dec (by omega), nI_dec (j := n) (by omega)]
          intro q
          have := (nI_leI (by omega) (by omega)).mp q.2
          omega
theorem row_at {n v j : Nat} (hj : j < n) : di 10 n v (n - 1 - j) = v / 10 ^ j % 10 := by
  unfold di
  rw [show n - 1 - (n - 1 - j) = j by omega]
theorem rcode_dg {n v p : Nat} (hn : n ≤ 6) (h : Dg n 1 n v) (hp : p < n) : dg (rcode n v) p = di 10 n v p - 1 := dg_pak hn (fun q hq => by
  have := (h.2 q hq).2
  omega) hp
theorem rok_iff {n v : Nat} (hn : n ≤ 6) (hv : v < 2 ^ 31) : (rok n v 0 ∧ v / 10 ^ n = 0) ↔ (DI n 1 n (nI v) v ∧ Rw n (rcode n v)) := by
  have hdi : ∀ p, p < n → di 10 n v p = v / 10 ^ (n - 1 - p) % 10 := fun p _ => rfl
  have hdg' : Dg n 1 n v → ∀ p, p < n → dg (rcode n v) p = di 10 n v p - 1 := fun hD p hp => rcode_dg hn hD hp
  constructor
  · rintro ⟨h, h0⟩
    have hD : Dg n 1 n v := ⟨by
      have hp : 0 < 10 ^ n := Nat.pow_pos (by decide)
      exact Nat.lt_of_div_eq_zero hp h0, fun p hp => by
      have := (h (n - 1 - p) (by omega) (by omega)).1
      rw [hdi p hp]
      omega⟩
    have hdg := hdg' hD
    refine ⟨⟨hv, rfl, hD⟩, rcode_Pt hn hD, fun p q hp hq e => ?_⟩
    rw [hdg p hp, hdg q hq] at e
    have a1 := (hD.2 p hp).1
    have a2 := (hD.2 q hq).1
    have e' : v / 10 ^ (n - 1 - p) % 10 = v / 10 ^ (n - 1 - q) % 10 := by
      rw [← hdi p hp, ← hdi q hq]
      omega
    by_cases hpq : p < q
    · exact absurd e'.symm ((h (n - 1 - p) (by omega) (by omega)).2 (n - 1 - q) (by omega))
    · by_cases hqp : q < p
      · exact absurd e' ((h (n - 1 - q) (by omega) (by omega)).2 (n - 1 - p) (by omega))
      · omega
  · rintro ⟨⟨-, -, hD⟩, hR⟩
    have hdg := hdg' hD
    refine ⟨fun j _ hj => ⟨?_, fun j' hj' e => ?_⟩, Nat.div_eq_of_lt hD.1⟩
    · have := hD.2 (n - 1 - j) (by omega)
      rw [row_at hj] at this
      omega
    · have := hR.2 (n - 1 - j') (n - 1 - j) (by omega) (by omega) (by rw [hdg _ (by omega), hdg _ (by omega), row_at (by omega), row_at hj, e])
      omega
theorem r_isRow {z : Nat → Int32} {n v : Nat} {x : Int32} (hn : n ≤ 6) (hz : z 0 = nI n) (h : DI n 1 n x v) (hR : Rw n (rcode n v)) : f_X10_isRow x z = some 1 := by
  obtain ⟨hv, rfl, hD⟩ := h
  obtain ⟨g1, g2⟩ := (rok_iff hn hv).mpr ⟨⟨hv, rfl, hD⟩, hR⟩
  have e := (r_isRow_L hn hz hv n 0 q_fu 0 (by omega) (fu_lt (by omega)) (by decide) (fun b => by
    rw [Nat.zero_testBit]
    refine ⟨fun q => (by cases q), ?_⟩
    rintro ⟨j, hj, -⟩
    omega)).1 g1
  rw [if_pos g2, Nat.pow_zero, Nat.div_one] at e
  unfold f_X10_isRow
  rw [rd0 hz, ob_some]
  exact e
theorem r_isRow_no {z : Nat → Int32} {n : Nat} {x : Int32} (h1n : 1 ≤ n) (hn : n ≤ 6) (hz : z 0 = nI n) (h : ¬ ∃ v, DI n 1 n x v ∧ Rw n (rcode n v)) : f_X10_isRow x z = some 0 := by
  unfold f_X10_isRow
  rw [rd0 hz, ob_some]
  by_cases hx : x < 0
  · show f_X10_isRow_L14 z _ (5999 + 1) x 0 (nI n - 1) = _
    rw [f_X10_isRow_L14, nI_dec h1n, if_neg (nI_pos (by omega)), qe_rm10, ob_some, if_pos (show x ≤ 0 by rw [fa_lt] at hx; rw [fa_le]; omega)]
  · obtain ⟨v, hv, rfl⟩ := nI_of hx
    have e := r_isRow_L hn hz hv n 0 q_fu 0 (by omega) (fu_lt (by omega)) (by decide) (fun b => by
      rw [Nat.zero_testBit]
      refine ⟨fun q => (by cases q), ?_⟩
      rintro ⟨j, hj, -⟩
      omega)
    rw [Nat.pow_zero, Nat.div_one] at e
    by_cases hr : rok n v 0
    · have h0 : ¬ v / 10 ^ n = 0 := fun q => h ⟨v, (rok_iff hn hv).mp ⟨hr, q⟩⟩
      have e1 := e.1 hr
      rw [if_neg h0] at e1
      exact e1
    · exact e.2 hr
theorem r_gen_L {n v m : Nat} (hn : n ≤ 6) (hm : m < 4) (hv : v < 2 ^ 31) (h1 : ∀ j, j < n → 1 ≤ v / 10 ^ j % 10) (p2 : Int32) (K : Int32 → Int32 → (Nat → Int32) → Option (Int32 × (Nat → Int32) × Int32 × (Nat → Int32) × (Nat → Int32) × Int32 × (Nat → Int32) × (Nat → Int32))) : ∀ d i fu z, i + d = n → d < fu → ∃ (z' : Nat → Int32) (a b : Int32), f_X10_generator_L54 p2 (nI m) K fu (nI (v / 10 ^ i)) (nI d - 1) z = K a b z' ∧ (∀ p, p < d → z' (9 + 6 * m + p) = nI (v / 10 ^ (n - 1 - p) % 10 - 1)) ∧ ∀ x, ¬ (9 + 6 * m ≤ x ∧ x < 9 + 6 * m + d) → z' x = z x
  | d, i, 0, _, _, h => by omega
  | 0, i, fu + 1, z, hi, _ => by
    rw [f_X10_generator_L54, if_pos nI_dneg]
    exact ⟨z, _, _, rfl, fun p hp => by omega, fun x _ => rfl⟩
  | d + 1, i, fu + 1, z, hi, hfu => by
    have hq : v / 10 ^ i ≤ v := Nat.div_le_self _ _
    have e3 : v / 10 ^ i / 10 = v / 10 ^ (i + 1) := by rw [Nat.div_div_eq_div_mul, ← Nat.pow_succ]
    obtain ⟨z', a, b, e, g1, g2⟩ := r_gen_L hn hm hv h1 p2 K d (i + 1) fu (upd z (9 + 6 * m + d) (nI (v / 10 ^ i % 10 - 1))) (by omega) (by omega)
    refine ⟨z', a, b, ?_, fun p hp => ?_, fun x hx => ?_⟩
    · rw [f_X10_generator_L54, nI_dec (by omega), Nat.add_sub_cancel, if_neg (nI_pos (by omega)), li_10, qe_rm (by omega) (by omega) (by decide), ob_some, li_9, li_6, nI_mul, nI_add, nI_add, nI_dec (h1 i (by omega)), qe_wt _ _ (by omega) (by decide), ob_some, qe_dv (by omega) (by omega) (by decide), ob_some, e3, show nI d + (-1) = nI d - 1 from (Int32.sub_eq_add_neg _ _).symm]
      exact e
    · by_cases q : p = d
      · subst q
        rw [g2 _ (by omega), upd_at, show n - 1 - p = i by omega]
      · exact g1 p (by omega)
    · rw [g2 x (by omega), upd_ne _ (by omega)]
theorem op_generator : OP_generator RR := by
  intro x_hasImage f_places f_kinds f_weights f_howManyGenerators f_generators f_racks f_howManySeen f_seenFirst f_seenSecond f_seenIs f_seenPlaces f_howManyEvents f_eventWhat f_eventNumber g_places g_kinds g_weights g_howManyGenerators g_generators g_racks g_howManySeen g_seenFirst g_seenSecond g_seenIs g_seenPlaces g_howManyEvents g_eventWhat g_eventNumber v_keys v_asFound v_found v_turns v_places p_keys p_asFound p_found p_turns p_places i_sort i_howOften i_sorts i_moves n_u u_leasts u_howMany u_known n_w w_leasts w_howMany w_known t_signs t_length t_whole t_begins t_ends r_sorts r_numbers r_length sr ln it z_thrown z_s z_kept z_isKept z_moveMany z_moves z_hands z_troubles z_troubleSorts z_troubleNumbers z_asked z_paint z_leasts z_isSeen z_classMany z_types z_typeCounts z_typeMany z_text z_signs z_at z_lacks z_clauses z_begun z_letters z_firsts z_seconds z_aside z_sorts z_sizes z_items hR p1 p2 n_m0 n_m1 n_m2 n_s0 n_s1 n_s2
  obtain ⟨n, k, m, gk, w, B, hF, hV, hI, hu, hw, ht, hr, hs⟩ := hR
  have hF' := hF
  obtain ⟨hb, ⟨rfl, rfl, rfl⟩, ⟨hz0, hz1, hz2⟩, hw4, hG, hK, hS, hE⟩ := hF
  have hV' := hV
  obtain ⟨hB, ⟨hKy, hAs, rfl, rfl⟩, rfl⟩ := hV
  have hm4 := hb.2.2.2.2
  have h2n := hb.1
  have h6 := hb.2.1
  have hk1 := hb.2.2.1
  have hk4 := hb.2.2.2.1
  have hKS := KS_of hb hG hB
  have hl := hKS.2
  have hL := srt_len B
  have hpos : 0 < B.length := List.length_pos_of_mem hKS.1.2.2.1
  obtain ⟨mv', hd', hM, e1⟩ := r_moves_ (mv := z_moves) (hd := z_hands) (mm := z_moveMany) hb.2.1 hm4 (ZG_of hz0 hz2 hG) (fun i hi => (hG i hi).1) hB
  have e2 : q_rd z_s 82 2 = some (nI m) := rd2 hz2
  have ein : f_X10_in (p2.toInt64) 0 1 = some (if (0 : Int32) ≤ p2 ∧ p2 ≤ 1 then 1 else 0) := r_inN (by decide) (by decide)
  by_cases hd : ∃ v, DI n 1 n p1 v ∧ Rw n (rcode n v)
  · obtain ⟨v, hv, hR⟩ := hd
    have eC := e_packedRow h6 hv hR
    have eM := r_isRow h6 hz0 hv hR
    have hr31 : rcode n v < 262144 := hR.1.1
    by_cases hin : (0 : Int32) ≤ p2 ∧ p2 ≤ 1
    · obtain ⟨h, -, hh1, rfl⟩ := in_nat (l := 0) (h := 1) (by decide) (by decide) hin
      by_cases hm : m = 4
      · subst hm
        refine ⟨(-4, z_s, z_moveMany, z_moves, z_hands, z_troubles, z_troubleSorts, z_troubleNumbers), ?_, (-4, nI 4, f_generators, n_m0, n_m1, n_m2, n_s0, n_s1, n_s2, v_keys, v_asFound, nI B.length, nI (B.countP (fun K => decide (K % 2 = 0))), nI n, p_keys, p_asFound, p_found, p_turns, p_places, u_known, w_known, r_sorts, r_numbers, r_length), ?_, rfl, RR_mk hF' hV' hI hu hw ht hr hs⟩
        · unfold f_X10_generator
          rw [eM, ob_some, if_neg (show ¬ (1 : Int32) = 0 by decide), ein, ob_some, if_pos hin, if_neg (show ¬ (1 : Int32) = 0 by decide), e2, ob_some, if_pos (show nI 4 = (4 : Int32) from rfl)]
        · unfold f_X9_generator
          rw [eC, ob_some, if_neg (nI_pos (by omega)), e_flag, ob_some, if_pos hin, if_neg (show ¬ (1 : Int32) = 0 by decide), if_neg (show ¬ nI 4 < (4 : Int32) by decide)]
      · have hm3 : m < 4 := by omega
        have hD := hv.2.2
        have hvv := hv.1
        have hx1 := hv.2.1
        subst hx1
        have hdig : ∀ j, j < n → 1 ≤ v / 10 ^ j % 10 := fun j hj => by
          have := (hD.2 (n - 1 - j) (by omega)).1
          rwa [row_at hj] at this
        let gk' : Nat → Nat := fun g => if g = m then 2 * rcode n v + h else gk g
        have gm : gk' m = 2 * rcode n v + h := if_pos rfl
        have gn : ∀ g, g < m → gk' g = gk g := fun g hg => if_neg (by omega)
        have gm2 : (2 * rcode n v + h) / 2 = rcode n v := by omega
        have hdg : ∀ p, p < n → dg (rcode n v) p = di 10 n v p - 1 := fun p hp => rcode_dg h6 hD hp
        have hMv : ∀ g, g < m + 1 → Mv n (gk' g) := fun g hg => by
          by_cases q : g = m
          · subst q
            rw [gm]
            show Rw n ((2 * rcode n v + h) / 2)
            rw [gm2]
            exact hR
          · rw [gn g (by omega)]
            exact (hG g (by omega)).1
        -- the reference's rows
        obtain ⟨zz, a, b, eL, z1, z2⟩ := r_gen_L (v := v) (m := m) h6 hm3 hvv hdig (nI h) (fun l4_9 l5_9 z_s_9 => (q_wt z_s_9 82 (33 + nI m) (nI h)).bind fun t10 => (q_rd t10 82 2).bind fun t11 => (q_wt t10 82 2 (t11 + 1)).bind fun t12 => (f_X10_allGenerators t12).bind fun t13 => (f_X10_moves t13 t12 z_moveMany z_moves z_hands).bind fun t14 => if t14.1 = 0 then ((q_rd t12 82 2).bind fun t16 => (q_wt t12 82 2 (t16 - 1)).bind fun t17 => (q_rd t17 82 2).bind fun t18 => (f_X10_tells 5 t18 0 z_troubleSorts z_troubleNumbers).bind fun t19 => (f_X10_tells 6 120 t19.1 t19.2.1 t19.2.2).bind fun t20 => some ((-15), t17, t14.2.1, t14.2.2.1, t14.2.2.2, t20.1, t20.2.1, t20.2.2)) else (some (nI m, t12, t14.2.1, t14.2.2.1, t14.2.2.2, z_troubles, z_troubleSorts, z_troubleNumbers))) n 0 q_fu z_s (by omega) (fu_lt (by omega))
        rw [Nat.pow_zero, Nat.div_one] at eL
        let T : Nat → Int32 := upd (upd zz (33 + m) (nI h)) 2 (nI (m + 1))
        have tT : ∀ x, ¬ (x = 2 ∨ x = 33 + m ∨ (9 + 6 * m ≤ x ∧ x < 9 + 6 * m + n)) → T x = z_s x := fun x hx => by
          show upd (upd zz (33 + m) (nI h)) 2 (nI (m + 1)) x = _
          rw [upd_ne _ (by omega), upd_ne _ (by omega), z2 x (by omega)]
        have t2 : T 2 = nI (m + 1) := upd_at _ _ _
        have t33 : T (33 + m) = nI h := by
          show upd (upd zz (33 + m) (nI h)) 2 (nI (m + 1)) (33 + m) = _
          rw [upd_ne _ (by omega), upd_at]
        have t9 : ∀ p, p < n → T (9 + 6 * m + p) = nI (dg (rcode n v) p) := fun p hp => by
          show upd (upd zz (33 + m) (nI h)) 2 (nI (m + 1)) (9 + 6 * m + p) = _
          rw [upd_ne _ (by omega), upd_ne _ (by omega), z1 p hp, hdg p hp]
          rfl
        have eT : (q_wt zz 82 (33 + nI m) (nI h)) = some (upd zz (33 + m) (nI h)) := by
          rw [li_33, nI_add, qe_wt _ _ (by omega) (by decide)]
        have eT1 : q_rd (upd zz (33 + m) (nI h)) 82 2 = some (nI m) := rd2 (by rw [upd_ne _ (by omega), z2 2 (by omega), hz2])
        have eT2 : ∀ (q : Nat → Int32) (x : Int32), q_wt q 82 2 x = some (upd q 2 x) := fun q x => qe_wt (i := 2) _ _ (by decide) (by decide)
        have hGn : FG n (m + 1) gk' (upd f_generators m (nI (2 * rcode n v + h))) T := fun g hg => by
          refine ⟨hMv g hg, ?_⟩
          by_cases q : g = m
          · subst q
            rw [upd_at, gm, gm2]
            exact ⟨rfl, t9, by rw [t33, show (2 * rcode n v + h) % 2 = h by omega]⟩
          · obtain ⟨-, a2, a3, a4⟩ := hG g (by omega)
            rw [upd_ne _ q, gn g (by omega)]
            exact ⟨a2, fun p hp => by rw [tT _ (by omega), a3 p hp], by rw [tT _ (by omega), a4]⟩
        have hZ : ZG T n (m + 1) gk' := ZG_of ((tT 0 (by omega)).trans hz0) t2 hGn
        have hset := full_lt (m := m + 1) (by omega)
        obtain ⟨m1, m2⟩ := r_moves (mv := z_moves) (hd := z_hands) (mm := z_moveMany) h6 (by omega) hZ hset.2 (fun i hi _ => hMv i hi)
        obtain ⟨c1, c2⟩ := e_grow (keys := p_keys) (asF := p_asFound) (found := p_found) (turns := p_turns) (pl := p_places) (gens := upd f_generators m (nI (2 * rcode n v + h))) (gk := gk') h6 hset.2 (fun i hi hb => by
          rw [Nat.testBit_two_pow_sub_one, decide_eq_true_eq] at hb
          exact ⟨(hGn i hb).2.1, hMv i hb⟩)
        rw [sel_4 (by omega) hset.1] at c1 c2
        have eM2 : f_X10_generator (nI v) (nI h) z_s z_moveMany z_moves z_hands z_troubles z_troubleSorts z_troubleNumbers = (f_X10_moves (nI (2 ^ (m + 1) - 1)) T z_moveMany z_moves z_hands).bind fun t14 => if t14.1 = 0 then ((q_rd T 82 2).bind fun t16 => (q_wt T 82 2 (t16 - 1)).bind fun t17 => (q_rd t17 82 2).bind fun t18 => (f_X10_tells 5 t18 0 z_troubleSorts z_troubleNumbers).bind fun t19 => (f_X10_tells 6 120 t19.1 t19.2.1 t19.2.2).bind fun t20 => some ((-15), t17, t14.2.1, t14.2.2.1, t14.2.2.2, t20.1, t20.2.1, t20.2.2)) else (some (nI m, T, t14.2.1, t14.2.2.1, t14.2.2.2, z_troubles, z_troubleSorts, z_troubleNumbers)) := by
          unfold f_X10_generator
          rw [eM, ob_some, if_neg (show ¬ (1 : Int32) = 0 by decide), ein, ob_some, if_pos hin, if_neg (show ¬ (1 : Int32) = 0 by decide), e2, ob_some, if_neg (show ¬ nI m = (4 : Int32) from fun q => hm (nI_inj (a := m) (b := 4) (by omega) (by omega) q)), ob_some, rd0 hz0, ob_some, eL, eT, ob_some, eT1, ob_some, nI_1, eT2, ob_some, r_all (z := upd (upd zz (33 + m) (nI h)) 2 (nI (m + 1))) (by omega) t2, ob_some]
        have eC2 : f_X9_generator (nI v) (nI h) (nI n) (nI m) f_generators n_m0 n_m1 n_m2 n_s0 n_s1 n_s2 v_keys v_asFound (nI B.length) (nI (B.countP (fun K => decide (K % 2 = 0)))) (nI n) p_keys p_asFound p_found p_turns p_places u_known w_known r_sorts r_numbers r_length = (f_X5_grow (nI (2 ^ (m + 1) - 1)) (nI n) p_keys p_asFound p_found p_turns p_places (upd f_generators m (nI (2 * rcode n v + h)))).bind fun t8 => if t8.1 = 0 then ((f_X8_begin 5 (nI m) r_sorts r_numbers r_length).bind fun t11 => (f_X8_because 6 120 t11.1 t11.2.1 t11.2.2).bind fun t12 => some ((-15), nI m, (upd f_generators m (nI (2 * rcode n v + h))), n_m0, n_m1, n_m2, n_s0, n_s1, n_s2, v_keys, v_asFound, (nI B.length), (nI (B.countP (fun K => decide (K % 2 = 0)))), (nI n), t8.2.1, t8.2.2.1, t8.2.2.2.1, t8.2.2.2.2.1, t8.2.2.2.2.2, u_known, w_known, t12.1, t12.2.1, t12.2.2)) else (some (nI m, nI (m + 1), (upd f_generators m (nI (2 * rcode n v + h))), n_s0, n_s1, n_s2, n_m0, n_m1, n_m2, t8.2.1, t8.2.2.1, t8.2.2.2.1, t8.2.2.2.2.1, t8.2.2.2.2.2, v_keys, v_asFound, (nI B.length), (nI (B.countP (fun K => decide (K % 2 = 0)))), (nI n), 0, 0, r_sorts, r_numbers, r_length)) := by
          unfold f_X9_generator f_X9_lowestBits f_X9_forgetClasses
          rw [eC, ob_some, if_neg (nI_pos (by omega)), e_flag, ob_some, if_pos hin, if_neg (show ¬ (1 : Int32) = 0 by decide), if_pos (show nI m < (4 : Int32) from nI_lt (a := m) (b := 4) (by omega) (by decide)), show (1 &&& 31 : Int32) = nI 1 from by decide, nI_shl _ (by decide), nI_or, show rcode n v * 2 ^ 1 ||| h = 2 * rcode n v + h from by rw [Nat.mul_comm]; exact or_low (k := 1) (by omega), qe_wt _ _ hm3 (by decide), ob_some, nI_1, full_I (by omega), ob_some]
          rfl
        cases hg : gen n (sel (2 ^ (m + 1) - 1) gk' (m + 1) 0) with
        | some B' =>
          obtain ⟨mv2, hd2, -, e5⟩ := m1 B' hg
          obtain ⟨k', a', f', t', hVS, e6⟩ := c1 B' hg
          rw [e5, ob_some] at eM2
          rw [e6, ob_some] at eC2
          refine ⟨_, eM2, _, eC2, rfl, RR_mk (n := n) (k := k) (m := m + 1) (gk := gk') (w := w) (B := B') ⟨⟨hb.1, hb.2.1, hb.2.2.1, hb.2.2.2.1, by omega⟩, ⟨rfl, rfl, rfl⟩, ⟨(tT 0 (by omega)).trans hz0, (tT 1 (by omega)).trans hz1, t2⟩, fun j hj => ⟨(hw4 j hj).1, (hw4 j hj).2.1, (tT _ (by omega)).trans (hw4 j hj).2.2⟩, hGn, FK_cong (fun r hr => (hK r hr).imp_right (fun ⟨g, h1, h2⟩ => ⟨g, by omega, h2⟩)) (fun x h1 h2 => tT x (by omega)), FS_cong hS (tT 3 (by omega)) (fun x h1 h2 => tT x (by omega)), FE_cong hE (tT 4 (by omega)) (fun x h1 h2 => tT x (by omega))⟩ ⟨hg, hVS, rfl⟩ hI ⟨hu.1, Or.inl rfl⟩ ⟨hw.1, Or.inl rfl⟩ ht hr hs⟩
        | none =>
          obtain ⟨mm2, mv2, hd2, e5⟩ := m2 hg
          obtain ⟨r, e6, e7⟩ := c2 hg
          have eS : ∀ x, ¬ (x = 33 + m ∨ (9 + 6 * m ≤ x ∧ x < 9 + 6 * m + n)) → upd T 2 (nI m) x = z_s x := fun x hx => by
            by_cases q : x = 2
            · subst q
              rw [upd_at, hz2]
            · rw [upd_ne _ q, tT x (by omega)]
          rw [e5, ob_some, if_pos rfl, rd2 t2, ob_some, show nI (m + 1) - 1 = nI m from nI_dec (j := m + 1) (by omega), eT2, ob_some, rd2 (upd_at _ _ _), ob_some] at eM2
          rw [e6, ob_some, if_pos e7] at eC2
          have eM3 : (f_X10_tells 5 (nI m) 0 z_troubleSorts z_troubleNumbers).bind (fun t19 => (f_X10_tells 6 120 t19.1 t19.2.1 t19.2.2).bind fun t20 => some ((-15 : Int32), upd T 2 (nI m), mm2, mv2, hd2, t20.1, t20.2.1, t20.2.2)) = some ((-15 : Int32), upd T 2 (nI m), mm2, mv2, hd2, nI 2, upd (upd z_troubleSorts 0 5) 1 6, upd (upd z_troubleNumbers 0 (nI m)) 1 120) := rfl
          have eC3 : ∀ (F : (Nat → Int32) → (Nat → Int32) → Int32 → Option (Int32 × Int32 × (Nat → Int32) × Nat × Nat × Nat × Nat × Nat × Nat × (Nat → Int32) × (Nat → Int32) × Int32 × Int32 × Int32 × (Nat → Int32) × (Nat → Int32) × Int32 × Int32 × Int32 × Int32 × Int32 × (Nat → Int32) × (Nat → Int32) × Int32)), ((f_X8_begin 5 (nI m) r_sorts r_numbers r_length).bind fun t11 => (f_X8_because 6 120 t11.1 t11.2.1 t11.2.2).bind fun t12 => F t12.1 t12.2.1 t12.2.2) = F (upd (upd r_sorts 0 5) 1 6) (upd (upd r_numbers 0 (nI m)) 1 120) (nI 2) := fun F => rfl
          refine ⟨_, eM2.trans eM3, _, eC2.trans (eC3 (fun a b c => some ((-15), nI m, (upd f_generators m (nI (2 * rcode n v + h))), n_m0, n_m1, n_m2, n_s0, n_s1, n_s2, v_keys, v_asFound, (nI B.length), (nI (B.countP (fun K => decide (K % 2 = 0)))), (nI n), r.2.1, r.2.2.1, r.2.2.2.1, r.2.2.2.2.1, r.2.2.2.2.2, u_known, w_known, a, b, c))), rfl, RR_mk (n := n) (k := k) (m := m) (gk := gk) (w := w) (B := B) ⟨hb, ⟨rfl, rfl, rfl⟩, ⟨(eS 0 (by omega)).trans hz0, (eS 1 (by omega)).trans hz1, (show upd T 2 (nI m) 2 = nI m from upd_at _ _ _)⟩, fun j hj => ⟨(hw4 j hj).1, (hw4 j hj).2.1, (eS _ (by omega)).trans (hw4 j hj).2.2⟩, fun g hg => ?_, FK_cong hK (fun x h1 h2 => eS x (by omega)), FS_cong hS (eS 3 (by omega)) (fun x h1 h2 => eS x (by omega)), FE_cong hE (eS 4 (by omega)) (fun x h1 h2 => eS x (by omega))⟩ hV' hI hu hw ht ⟨2, by omega, rfl, rfl, fun j hj => ?_⟩ hs⟩
          · obtain ⟨a1, a2, a3, a4⟩ := hG g hg
            exact ⟨a1, (upd_ne _ (by omega)).trans a2, fun p hp => (eS _ (by omega)).trans (a3 p hp), (eS _ (by omega)).trans a4⟩
          · obtain rfl | rfl : j = 0 ∨ j = 1 := by omega
            · exact ⟨rfl, rfl⟩
            · exact ⟨rfl, rfl⟩
    · refine ⟨(-2, z_s, z_moveMany, z_moves, z_hands, z_troubles, z_troubleSorts, z_troubleNumbers), ?_, (-2, nI m, f_generators, n_m0, n_m1, n_m2, n_s0, n_s1, n_s2, v_keys, v_asFound, nI B.length, nI (B.countP (fun K => decide (K % 2 = 0))), nI n, p_keys, p_asFound, p_found, p_turns, p_places, u_known, w_known, r_sorts, r_numbers, r_length), ?_, rfl, RR_mk hF' hV' hI hu hw ht hr hs⟩
      · unfold f_X10_generator
        rw [eM, ob_some, if_neg (show ¬ (1 : Int32) = 0 by decide), ein, ob_some, if_neg hin, if_pos rfl]
      · unfold f_X9_generator
        rw [eC, ob_some, if_neg (nI_pos (by omega)), e_flag, ob_some, if_neg hin, if_pos rfl]
  · refine ⟨(-2, z_s, z_moveMany, z_moves, z_hands, z_troubles, z_troubleSorts, z_troubleNumbers), ?_, (-2, nI m, f_generators, n_m0, n_m1, n_m2, n_s0, n_s1, n_s2, v_keys, v_asFound, nI B.length, nI (B.countP (fun K => decide (K % 2 = 0))), nI n, p_keys, p_asFound, p_found, p_turns, p_places, u_known, w_known, r_sorts, r_numbers, r_length), ?_, rfl, RR_mk hF' hV' hI hu hw ht hr hs⟩
    · unfold f_X10_generator
      rw [r_isRow_no (by omega) h6 hz0 hd, ob_some, if_pos rfl]
    · unfold f_X9_generator
      rw [e_packedRow_no (by omega) h6 hd, ob_some, if_pos m1_lt]
