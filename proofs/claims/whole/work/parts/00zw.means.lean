-- ===== the steps: even, likely, mean, spread =====
theorem nz_mono {f : FP.Core.Fmt} {lo hi lo' hi' : Int} {s : Bool} {d : FP.Core.Datum} (h : nz f lo hi s d) (h1 : lo' ≤ lo) (h2 : hi ≤ hi') : nz f lo' hi' s d := by
  obtain ⟨c, q, e, c1, c2, q1, q2⟩ := h
  exact ⟨c, q, e, c1, c2, by omega, by omega⟩
theorem oz_mono {f : FP.Core.Fmt} {lo hi lo' hi' : Int} {s : Bool} {d : FP.Core.Datum} (h : oz f lo hi s d) (h1 : lo' ≤ lo) (h2 : hi ≤ hi') : oz f lo' hi' s d := h.imp_right (fun h => nz_mono h h1 h2)
theorem di_64 {a : Nat} (ha : a < 8192) : ∃ d, FP.i2d (nI a) = B64 d ∧ oz FP.Core.b64 (-53) (-39) false d ∧ (0 < a → nz FP.Core.b64 (-53) (-39) false d) := by
  have e : FP.i2d (nI a) = B64 (FP.Core.round FP.Core.b64 (FP.Core.ofInt (a : Int))) := by
    show UInt64.ofNat (FP.Core.encode FP.Core.b64 (FP.Core.round FP.Core.b64 (FP.Core.ofInt (nI a).toInt))) = _
    rw [nI_toInt (by omega)]
    rfl
  refine ⟨_, e, ?_⟩
  by_cases h0 : a = 0
  · subst h0
    exact ⟨Or.inl (by decide), fun h => by omega⟩
  · have := id_nz (f := FP.Core.b64) (lo := -53) (hi := -39) (j := 12) (by decide) (Nat.pos_of_ne_zero h0) ha (by decide) (by decide) (by decide) (by decide)
    exact ⟨Or.inr this, fun _ => this⟩
theorem di_32 {a : Nat} (ha : a < 8192) : ∃ d, FP.i2f (nI a) = B32 d ∧ oz FP.Core.b32 (-24) (-10) false d ∧ (0 < a → nz FP.Core.b32 (-24) (-10) false d) := by
  have e : FP.i2f (nI a) = B32 (FP.Core.round FP.Core.b32 (FP.Core.ofInt (a : Int))) := by
    show UInt32.ofNat (FP.Core.encode FP.Core.b32 (FP.Core.round FP.Core.b32 (FP.Core.ofInt (nI a).toInt))) = _
    rw [nI_toInt (by omega)]
    rfl
  refine ⟨_, e, ?_⟩
  by_cases h0 : a = 0
  · subst h0
    exact ⟨Or.inl (by decide), fun h => by omega⟩
  · have := id_nz (f := FP.Core.b32) (lo := -24) (hi := -10) (j := 12) (by decide) (Nat.pos_of_ne_zero h0) ha (by decide) (by decide) (by decide) (by decide)
    exact ⟨Or.inr this, fun _ => this⟩
theorem oq_64 {lo hi : Int} {b : Nat} {x : FP.Core.Datum} (h : oz FP.Core.b64 lo hi false x) (h1 : -900 ≤ lo) (h2 : hi ≤ 200) (hb : 0 < b) (hb2 : b < 8192) : ∃ d, FP.ddiv (B64 x) (FP.i2d (nI b)) = B64 d ∧ oz FP.Core.b64 (lo - 14) (hi + 2) false d := by
  obtain ⟨y, e, ho, hn⟩ := di_64 hb2
  have hn := hn hb
  refine ⟨_, by rw [e, dd_64 (oz_64 h (by omega) (by omega)).1 (oz_64 ho (by decide) (by decide)).1], ?_⟩
  rcases h with rfl | h
  · exact Or.inl (dv_0 hn)
  · exact Or.inr (dv_nz (s := false) (t := false) (by decide) h hn (show -1074 ≤ lo - 14 by omega) (show hi + 2 ≤ 971 by omega) (show lo - 14 ≤ lo - -39 - ((53 : Nat) : Int) by omega) (show hi - -53 - ((53 : Nat) : Int) + 2 ≤ hi + 2 by omega))
theorem fq_64 {a b : Nat} (ha : a < 8192) (hb : 0 < b) (hb2 : b < 8192) : ∃ d, FP.ddiv (FP.i2d (nI a)) (FP.i2d (nI b)) = B64 d ∧ oz FP.Core.b64 (-67) (-37) false d := by
  obtain ⟨x, e, ho, -⟩ := di_64 ha
  rw [e]
  exact oq_64 ho (by decide) (by decide) hb hb2
theorem fq_32 {a b : Nat} (ha : a < 8192) (hb : 0 < b) (hb2 : b < 8192) : ∃ d, FP.fdiv (FP.i2f (nI a)) (FP.i2f (nI b)) = B32 d ∧ oz FP.Core.b32 (-38) (-8) false d := by
  obtain ⟨x, e, ho, -⟩ := di_32 ha
  obtain ⟨y, e2, ho2, hn⟩ := di_32 hb2
  have hn := hn hb
  refine ⟨_, by rw [e, e2, fd_32 (oz_32 ho (by decide) (by decide)).1 (oz_32 ho2 (by decide) (by decide)).1], ?_⟩
  rcases ho with rfl | h
  · exact Or.inl (dv_0 hn)
  · exact Or.inr (dv_nz (s := false) (t := false) (by decide) h hn (by decide) (by decide) (by decide) (by decide))
theorem hlf_32 : (1056964608 : UInt32) = B32 (.fin false 8388608 (-24)) := by decide +kernel
theorem fq_p {a b : Nat} (ha : a < 8192) (hb : 0 < b) (hb2 : b < 8192) : ∃ d, FP.fdiv (FP.i2f (nI a)) (FP.i2f (nI b)) = B32 d ∧ oz FP.Core.b32 (-38) (-8) false d ∧ ∃ x, q_n32 (FP.fadd (B32 d) 1056964608) = some x := by
  obtain ⟨d, e, ho⟩ := fq_32 ha hb hb2
  refine ⟨d, e, ho, ?_⟩
  have hh : oz FP.Core.b32 (-38) (-8) false (.fin false 8388608 (-24)) := nz_32 (by decide) (by decide) (by decide) (by decide)
  rw [hlf_32, fa_32 (oz_32 ho (by decide) (by decide)).1 (oz_32 hh (by decide) (by decide)).1]
  obtain ⟨u, h, -⟩ := sm_nz (lo := -62) (hi := -6) (by decide) ho hh (by decide) (by decide) (by decide) (by decide) (by decide)
  exact ⟨_, (oz_32 h (by decide) (by decide)).2⟩
theorem ng_oz {lo hi : Int} {s : Bool} {x : FP.Core.Datum} (h : oz FP.Core.b64 lo hi s x) : oz FP.Core.b64 lo hi (!s) (FP.Core.negate x) := by
  rcases h with rfl | ⟨c, q, rfl, r⟩
  · exact Or.inl rfl
  · exact Or.inr ⟨c, q, rfl, r⟩
/-- a square of a difference, added -/
theorem sq_step {w : Nat} {lo hi : Int} {m x : FP.Core.Datum} (hw : w < 8192) (hm : oz FP.Core.b64 (-67) (-37) false m) (hx : oz FP.Core.b64 lo hi false x) (h1 : -900 ≤ lo) (h2 : lo ≤ -240) (h3 : 0 ≤ hi) (h4 : hi ≤ 900) : ∃ y z x', q_n64 (FP.dsub (FP.i2d (nI w)) (B64 m)) = some y ∧ q_n64 (FP.dmul y y) = some z ∧ q_n64 (FP.dadd (B64 x) z) = some (B64 x') ∧ oz FP.Core.b64 (lo - 53) (hi + 2) false x' := by
  obtain ⟨a, e, ho, -⟩ := di_64 hw
  have ho' := oz_mono (lo' := -67) (hi' := -37) ho (by decide) (by decide)
  obtain ⟨u, g1, -⟩ := sm_nz (lo := -120) (hi := -35) (by decide) ho' (ng_oz hm) (by decide) (by decide) (by decide) (by decide) (by decide)
  have e1 : FP.dsub (FP.i2d (nI w)) (B64 m) = B64 (FP.Core.round FP.Core.b64 (FP.Core.exactSum a (FP.Core.negate m))) := by
    rw [e, ds_64 (oz_64 ho (by decide) (by decide)).1 (oz_64 hm (by decide) (by decide)).1]
  obtain ⟨k1, k2⟩ := oz_64 g1 (by decide) (by decide)
  generalize FP.Core.round FP.Core.b64 (FP.Core.exactSum a (FP.Core.negate m)) = y at *
  have g2 : oz FP.Core.b64 (-190) (-10) false (FP.Core.round FP.Core.b64 (FP.Core.exactProduct y y)) := by
    rcases g1 with rfl | g
    · refine Or.inl (Eq.trans ml_0 ?_)
      cases u <;> rfl
    · have := ml_nz (lo := -190) (hi := -10) (by decide) g g (by decide) (by decide) (by decide) (by decide)
      rw [show (u != u) = false from by cases u <;> rfl] at this
      exact Or.inr this
  obtain ⟨k3, k4⟩ := oz_64 g2 (by decide) (by decide)
  have e2 : FP.dmul (B64 y) (B64 y) = B64 (FP.Core.round FP.Core.b64 (FP.Core.exactProduct y y)) := dm_64 k1 k1
  generalize FP.Core.round FP.Core.b64 (FP.Core.exactProduct y y) = z at *
  obtain ⟨v, g3, g4⟩ := sm_nz (f := FP.Core.b64) (lo := lo - 53) (hi := hi + 2) (by decide) hx (oz_mono (lo' := lo) (hi' := hi) g2 (by omega) (by omega)) (show -1074 ≤ lo by omega) (show -1074 ≤ lo - 53 by omega) (show hi + 2 ≤ 971 by omega) (Int.le_refl _) (Int.le_refl _)
  have hv : v = false := g4 rfl rfl
  subst hv
  refine ⟨B64 y, B64 z, FP.Core.round FP.Core.b64 (FP.Core.exactSum x z), by rw [e1, k2], by rw [e2, k4], ?_, g3⟩
  rw [da_64 (oz_64 hx (by omega) (by omega)).1 k3, (oz_64 g3 (by omega) (by omega)).2]
theorem spread_L {z pa fw : Nat → Int32} {w : Nat → Nat} {n k P : Nat} {m : FP.Core.Datum} (l2 : Int32) (hn : n ≤ 6) (hk : k ≤ 4) (hz : z 0 = nI n) (hw : ∀ j, j < 4 → w j ≤ 9 ∧ fw j = nI (w j) ∧ z (5 + j) = nI (w j)) (hP : Pt n k P) (hA : PA pa n P) (hm : oz FP.Core.b64 (-67) (-37) false m) (K : UInt64 → Int32 → Option (Int64 × (Nat → Int32))) (KC : UInt64 → Int32 → Option Int64) : ∀ d i fu x, i + d = n → d < fu → oz FP.Core.b64 (-240 - 53 * (i : Int)) (2 * (i : Int)) false x → ∃ x', oz FP.Core.b64 (-600) 20 false x' ∧ f_X10_spread_L47 l2 (B64 m) z pa K fu (B64 x) (nI i) = K (B64 x') (nI n) ∧ f_X9_spread_L47 l2 (nI P) (B64 m) (nI n) fw KC fu (B64 x) (nI i) = KC (B64 x') (nI n)
  | d, i, 0, _, _, h, _ => by omega
  | 0, i, fu + 1, x, hi, _, hx => by
    obtain rfl : i = n := by omega
    refine ⟨x, oz_mono hx (by omega) (by omega), ?_, ?_⟩
    · rw [f_X10_spread_L47, rd0 hz, ob_some, if_pos (nI_le (by omega) (by omega))]
    · rw [f_X9_spread_L47, if_pos (nI_le (by omega) (by omega))]
  | d + 1, i, fu + 1, x, hi, hfu, hx => by
    have hd4 : dg P i < 4 := by have := hP.2.1 i (by omega); omega
    obtain ⟨h9, hfw, hzw⟩ := hw (dg P i) hd4
    obtain ⟨y, zz, x1, e1, e2, e3, hx1⟩ := sq_step (w := w (dg P i)) (by omega) hm hx (by omega) (by omega) (by omega) (by omega)
    obtain ⟨x', hx', e4, e5⟩ := spread_L l2 hn hk hz hw hP hA hm K KC d (i + 1) fu x1 (by omega) (by omega) (oz_mono hx1 (by omega) (by omega))
    refine ⟨x', hx', ?_, ?_⟩
    · rw [f_X10_spread_L47, rd0 hz, ob_some, if_neg (nI_ge (by omega) (by omega)), qe_rd _ (by omega) (by decide), ob_some, hA i (by omega), show (5 : Int32) + nI (dg P i) = nI (5 + dg P i) from nI_add 5 _, qe_rd _ (by omega) (by decide), ob_some, hzw, e1, ob_some, e2, ob_some, e3, ob_some, nI_1]
      exact e4
    · rw [f_X9_spread_L47, if_neg (nI_ge (by omega) (by omega)), e_weightAt (Pt_31 hP) (by omega) hd4 (fun j hj => (hw j hj).2.1), ob_some, e1, ob_some, e2, ob_some, e3, ob_some, nI_1]
      exact e5
theorem op_even : OP_even RR := by
  intro x_hasImage f_places f_kinds f_weights f_howManyGenerators f_generators f_racks f_howManySeen f_seenFirst f_seenSecond f_seenIs f_seenPlaces f_howManyEvents f_eventWhat f_eventNumber g_places g_kinds g_weights g_howManyGenerators g_generators g_racks g_howManySeen g_seenFirst g_seenSecond g_seenIs g_seenPlaces g_howManyEvents g_eventWhat g_eventNumber v_keys v_asFound v_found v_turns v_places p_keys p_asFound p_found p_turns p_places i_sort i_howOften i_sorts i_moves n_u u_leasts u_howMany u_known n_w w_leasts w_howMany w_known t_signs t_length t_whole t_begins t_ends r_sorts r_numbers r_length sr ln it z_thrown z_s z_kept z_isKept z_moveMany z_moves z_hands z_troubles z_troubleSorts z_troubleNumbers z_asked z_paint z_leasts z_isSeen z_classMany z_types z_typeCounts z_typeMany z_text z_signs z_at z_lacks z_clauses z_begun z_letters z_firsts z_seconds z_aside z_sorts z_sizes z_items hR p1
  obtain ⟨n, k, m, gk, w, B, hF, hV, hI, hu, hw, ht, hr, hs⟩ := hR
  have hF' := hF
  obtain ⟨hb, ⟨rfl, rfl, rfl⟩, ⟨hz0, hz1, hz2⟩, hw4, hG, hK, hS, hE⟩ := hF
  have hV' := hV
  obtain ⟨hB, ⟨hKy, hAs, rfl, rfl⟩, rfl⟩ := hV
  have hm4 := hb.2.2.2.2
  have h2n := hb.1
  have h6 := hb.2.1
  have hk1 := hb.2.2.1
  have hk4 := hb.2.2.2.1
  have hKS := KS_of hb hG hB
  have hl := hKS.2
  have hL := srt_len B
  have hpos : 0 < B.length := List.length_pos_of_mem hKS.1.2.2.1
  obtain ⟨mv', hd', hM, e1⟩ := r_moves_ (mv := z_moves) (hd := z_hands) (mm := z_moveMany) hb.2.1 hm4 (ZG_of hz0 hz2 hG) (fun i hi => (hG i hi).1) hB
  have h4 := pow_4096 h6 hk4
  have hp0 : 0 < k ^ n := Nat.pow_pos hk1
  by_cases hby : (0 : Int32) ≤ p1 ∧ p1 ≤ 1
  · obtain ⟨b, -, hb1, rfl⟩ := in_nat (l := 0) (h := 1) (by decide) (by decide) hby
    have hLl := LQ_len n k (BY b B) (k ^ n)
    obtain ⟨mv2, hd2, pa2, le2, se2, cm2, e2⟩ := r_classesBy (mv := z_moves) (hd := z_hands) (mm := z_moveMany) (pa := z_paint) (le := z_leasts) (se := z_isSeen) (cm := z_classMany) (b := b) h6 hk1 hk4 hm4 (ZG_of hz0 hz2 hG) hz1 (fun i hi => (hG i hi).1) hB hb1 hKS
    obtain ⟨so', of', ss', mo', e3⟩ := e_howManyClasses (so := i_sort) (of_ := i_howOften) (ss := i_sorts) (mo := i_moves) (b := b) h2n h6 hk1 hk4 hb1 hKS hKy
    obtain ⟨d, e4, ho⟩ := fq_32 (a := (LQ n k (BY b B) (k ^ n)).length) (b := k ^ n) (by omega) hp0 (by omega)
    obtain ⟨f1, f2⟩ := of_32 ho (by decide) (by decide)
    have hq := (oz_32 ho (by decide) (by decide)).2
    refine ⟨((B32 d).toInt32, nI B.length, mv2, hd2, pa2, le2, se2, cm2), ?_, ((B32 d).toInt32, so', of', ss', mo'), ?_, rfl, RR_mk hF' hV' hI hu hw ht hr hs⟩
    · unfold f_X10_even
      rw [r_by, ob_some, if_pos hby, if_neg (show ¬ (1 : Int32) = 0 by decide), e2, ob_some, r_paintings h6 hz0 hz1, ob_some, e4, hq, ob_some, f2, ob_some]
    · unfold f_X9_even
      rw [e_flag, ob_some, if_pos hby, if_neg (show ¬ (1 : Int32) = 0 by decide), e3, ob_some, e_paintings h6, ob_some, e4, hq, ob_some, f1, ob_some]
  · refine ⟨(-1, z_moveMany, z_moves, z_hands, z_paint, z_leasts, z_isSeen, z_classMany), ?_, (-1, i_sort, i_howOften, i_sorts, i_moves), ?_, rfl, RR_mk hF' hV' hI hu hw ht hr hs⟩
    · unfold f_X10_even
      rw [r_by, ob_some, if_neg hby, if_pos rfl]
    · unfold f_X9_even
      rw [e_flag, ob_some, if_neg hby, if_pos rfl]
theorem op_likely : OP_likely RR := by
  intro x_hasImage f_places f_kinds f_weights f_howManyGenerators f_generators f_racks f_howManySeen f_seenFirst f_seenSecond f_seenIs f_seenPlaces f_howManyEvents f_eventWhat f_eventNumber g_places g_kinds g_weights g_howManyGenerators g_generators g_racks g_howManySeen g_seenFirst g_seenSecond g_seenIs g_seenPlaces g_howManyEvents g_eventWhat g_eventNumber v_keys v_asFound v_found v_turns v_places p_keys p_asFound p_found p_turns p_places i_sort i_howOften i_sorts i_moves n_u u_leasts u_howMany u_known n_w w_leasts w_howMany w_known t_signs t_length t_whole t_begins t_ends r_sorts r_numbers r_length sr ln it z_thrown z_s z_kept z_isKept z_moveMany z_moves z_hands z_troubles z_troubleSorts z_troubleNumbers z_asked z_paint z_leasts z_isSeen z_classMany z_types z_typeCounts z_typeMany z_text z_signs z_at z_lacks z_clauses z_begun z_letters z_firsts z_seconds z_aside z_sorts z_sizes z_items hR p1 p2
  obtain ⟨n, k, m, gk, w, B, hF, hV, hI, hu, hw, ht, hr, hs⟩ := hR
  have hF' := hF
  obtain ⟨hb, ⟨rfl, rfl, rfl⟩, ⟨hz0, hz1, hz2⟩, hw4, hG, hK, hS, hE⟩ := hF
  have hV' := hV
  obtain ⟨hB, ⟨hKy, hAs, rfl, rfl⟩, rfl⟩ := hV
  have hm4 := hb.2.2.2.2
  have h2n := hb.1
  have h6 := hb.2.1
  have hk1 := hb.2.2.1
  have hk4 := hb.2.2.2.1
  have hKS := KS_of hb hG hB
  have hl := hKS.2
  have hL := srt_len B
  have hpos : 0 < B.length := List.length_pos_of_mem hKS.1.2.2.1
  obtain ⟨mv', hd', hM, e1⟩ := r_moves_ (mv := z_moves) (hd := z_hands) (mm := z_moveMany) hb.2.1 hm4 (ZG_of hz0 hz2 hG) (fun i hi => (hG i hi).1) hB
  have h4 := pow_4096 h6 hk4
  have hp0 : 0 < k ^ n := Nat.pow_pos hk1
  by_cases hby : (0 : Int32) ≤ p1 ∧ p1 ≤ 1
  · obtain ⟨b, -, hb1, rfl⟩ := in_nat (l := 0) (h := 1) (by decide) (by decide) hby
    by_cases hd : ∃ v, DI n 0 k p2 v
    · obtain ⟨v, hv⟩ := hd
      have hP := pc_Pt h6 hk4 hv
      obtain ⟨pa1, -, e2⟩ := r_sizeOf (pa := z_paint) h6 hk1 hk4 hz0 hz1 hb1 hKS hM hP
      have hsz : siz n (pcode n v) (BY b B) < 8192 := by
        have h1 : siz n (pcode n v) (BY b B) ≤ (BY b B).length := Nat.div_le_self _ _
        have h2 := BY_len (b := b) (B := B)
        omega
      obtain ⟨d, e4, ho⟩ := fq_64 (a := siz n (pcode n v) (BY b B)) (b := k ^ n) hsz hp0 (by omega)
      obtain ⟨f1, f2⟩ := od_64 ho (by decide) (by decide)
      have hq := (oz_64 ho (by decide) (by decide)).2
      refine ⟨((B64 d).toInt64, nI B.length, mv', hd', pa1), ?_, (B64 d).toInt64, ?_, rfl, RR_mk hF' hV' hI hu hw ht hr hs⟩
      · unfold f_X10_likely
        rw [r_indexOf h6 hk4 hz0 hz1 hv, ob_some, r_by, ob_some, if_pos hby, if_neg (show ¬ (1 : Int32) = 0 by decide), if_neg (idx_ne h6 hk4 hP), e1, ob_some, e2, ob_some, r_paintings h6 hz0 hz1, ob_some, e4, hq, ob_some, f2, ob_some]
      · unfold f_X9_likely
        rw [e_pp h6 (by omega) hv, ob_some, e_flag, ob_some, if_pos hby, if_neg (show ¬ (1 : Int32) = 0 by decide), if_pos (nI_pos' (Pt_31 hP)), e_howManyMade h6 hP hb1 hKS hKy, ob_some, e_paintings h6, ob_some, e4, hq, ob_some, f1, ob_some]
    · refine ⟨(-9223372036854775808, z_moveMany, z_moves, z_hands, z_paint), ?_, -9223372036854775808, ?_, rfl, RR_mk hF' hV' hI hu hw ht hr hs⟩
      · unfold f_X10_likely
        rw [r_indexOf_no (by omega) h6 hk4 hz0 hz1 hd, ob_some, r_by, ob_some, if_pos hby, if_neg (show ¬ (1 : Int32) = 0 by decide), if_pos rfl]
      · unfold f_X9_likely
        rw [e_pp_no h6 (by omega) hd, ob_some, e_flag, ob_some, if_pos hby, if_neg (show ¬ (1 : Int32) = 0 by decide), if_neg (by decide)]
  · obtain ⟨w1, hw1⟩ := r_ix_some p2 (show 1 ≤ n by omega) h6 hk4 hz0 hz1
    obtain ⟨w2, hw2⟩ : ∃ w2, f_X9_packedPainting p2 (nI n) (nI k) = some w2 := by
      by_cases hd2 : ∃ v, DI n 0 k p2 v
      · obtain ⟨v2, hv2⟩ := hd2
        exact ⟨_, e_pp h6 (by omega) hv2⟩
      · exact ⟨_, e_pp_no h6 (by omega) hd2⟩
    refine ⟨(-9223372036854775808, z_moveMany, z_moves, z_hands, z_paint), ?_, -9223372036854775808, ?_, rfl, RR_mk hF' hV' hI hu hw ht hr hs⟩
    · unfold f_X10_likely
      rw [hw1, ob_some, r_by, ob_some, if_neg hby, if_pos rfl]
    · unfold f_X9_likely
      rw [hw2, ob_some, e_flag, ob_some, if_neg hby, if_pos rfl]
theorem op_mean : OP_mean RR := by
  intro x_hasImage f_places f_kinds f_weights f_howManyGenerators f_generators f_racks f_howManySeen f_seenFirst f_seenSecond f_seenIs f_seenPlaces f_howManyEvents f_eventWhat f_eventNumber g_places g_kinds g_weights g_howManyGenerators g_generators g_racks g_howManySeen g_seenFirst g_seenSecond g_seenIs g_seenPlaces g_howManyEvents g_eventWhat g_eventNumber v_keys v_asFound v_found v_turns v_places p_keys p_asFound p_found p_turns p_places i_sort i_howOften i_sorts i_moves n_u u_leasts u_howMany u_known n_w w_leasts w_howMany w_known t_signs t_length t_whole t_begins t_ends r_sorts r_numbers r_length sr ln it z_thrown z_s z_kept z_isKept z_moveMany z_moves z_hands z_troubles z_troubleSorts z_troubleNumbers z_asked z_paint z_leasts z_isSeen z_classMany z_types z_typeCounts z_typeMany z_text z_signs z_at z_lacks z_clauses z_begun z_letters z_firsts z_seconds z_aside z_sorts z_sizes z_items hR p1 p2
  obtain ⟨n, k, m, gk, w, B, hF, hV, hI, hu, hw, ht, hr, hs⟩ := hR
  have hF' := hF
  obtain ⟨hb, ⟨rfl, rfl, rfl⟩, ⟨hz0, hz1, hz2⟩, hw4, hG, hK, hS, hE⟩ := hF
  have hV' := hV
  obtain ⟨hB, ⟨hKy, hAs, rfl, rfl⟩, rfl⟩ := hV
  have hm4 := hb.2.2.2.2
  have h2n := hb.1
  have h6 := hb.2.1
  have hk1 := hb.2.2.1
  have hk4 := hb.2.2.2.1
  have hKS := KS_of hb hG hB
  have hl := hKS.2
  have hL := srt_len B
  have hpos : 0 < B.length := List.length_pos_of_mem hKS.1.2.2.1
  obtain ⟨mv', hd', hM, e1⟩ := r_moves_ (mv := z_moves) (hd := z_hands) (mm := z_moveMany) hb.2.1 hm4 (ZG_of hz0 hz2 hG) (fun i hi => (hG i hi).1) hB
  by_cases hd : ∃ v, DI n 0 k p1 v
  · obtain ⟨v, hv⟩ := hd
    have hP := pc_Pt h6 hk4 hv
    obtain ⟨pa1, -, e2⟩ := r_heavyOf (pa := z_paint) h6 hk1 hk4 hz0 hz1 (fun j hj => (hw4 j hj).2.2) hP
    have hwl := wt_le (n := n) (P := pcode n v) (fun j hj => (hw4 j hj).1) (fun p hp => by have := hP.2.1 p hp; omega)
    obtain ⟨d, e4, ho, x, e5⟩ := fq_p (a := wt n w (pcode n v)) (b := n) (by omega) (by omega) (by omega)
    obtain ⟨f1, f2⟩ := of_32 ho (by decide) (by decide)
    have hq := (oz_32 ho (by decide) (by decide)).2
    have eM : f_X10_mean p1 p2 z_s z_paint = if p2 = 0 then some ((B32 d).toInt32, pa1) else if p2 = 1 then some (FP.f2i x, pa1) else some (-1, pa1) := by
      unfold f_X10_mean
      rw [r_indexOf h6 hk4 hz0 hz1 hv, ob_some, if_neg (idx_ne h6 hk4 hP), e2, ob_some, rd0 hz0, ob_some, e4, hq, ob_some, f2, ob_some, e5, ob_some]
    have eC : f_X9_mean p1 p2 (nI n) (nI k) f_weights = if (0 : Int32) ≤ p2 ∧ p2 ≤ 1 then (if p2 = 0 then some (B32 d).toInt32 else some (FP.f2i x)) else some (-1) := by
      unfold f_X9_mean
      rw [e_pp h6 (by omega) hv, ob_some, if_pos (nI_pos' (Pt_31 hP)), e_flag, ob_some, e_weightOf h6 hk4 hP (fun j hj => (hw4 j hj).2.1), ob_some, e4, hq, ob_some, f1, ob_some, e5, ob_some]
      by_cases h : (0 : Int32) ≤ p2 ∧ p2 ≤ 1
      · rw [if_pos h, if_pos h, if_neg (show ¬ (1 : Int32) = 0 by decide)]
      · rw [if_neg h, if_neg h, if_pos rfl]
    by_cases hfl : (0 : Int32) ≤ p2 ∧ p2 ≤ 1
    · rw [if_pos hfl] at eC
      rcases flag_01 hfl with rfl | rfl
      · exact ⟨_, eM, _, eC, rfl, RR_mk hF' hV' hI hu hw ht hr hs⟩
      · exact ⟨_, eM, _, eC, rfl, RR_mk hF' hV' hI hu hw ht hr hs⟩
    · rw [if_neg hfl] at eC
      rw [if_neg (show ¬ p2 = 0 from fun q => hfl (by rw [q]; decide)), if_neg (show ¬ p2 = 1 from fun q => hfl (by rw [q]; decide))] at eM
      exact ⟨_, eM, _, eC, rfl, RR_mk hF' hV' hI hu hw ht hr hs⟩
  · refine ⟨(-2, z_paint), ?_, -2, ?_, rfl, RR_mk hF' hV' hI hu hw ht hr hs⟩
    · unfold f_X10_mean
      rw [r_indexOf_no (by omega) h6 hk4 hz0 hz1 hd, ob_some, if_pos rfl]
    · unfold f_X9_mean
      rw [e_pp_no h6 (by omega) hd, ob_some, if_neg (by decide)]
theorem op_spread : OP_spread RR := by
  intro x_hasImage f_places f_kinds f_weights f_howManyGenerators f_generators f_racks f_howManySeen f_seenFirst f_seenSecond f_seenIs f_seenPlaces f_howManyEvents f_eventWhat f_eventNumber g_places g_kinds g_weights g_howManyGenerators g_generators g_racks g_howManySeen g_seenFirst g_seenSecond g_seenIs g_seenPlaces g_howManyEvents g_eventWhat g_eventNumber v_keys v_asFound v_found v_turns v_places p_keys p_asFound p_found p_turns p_places i_sort i_howOften i_sorts i_moves n_u u_leasts u_howMany u_known n_w w_leasts w_howMany w_known t_signs t_length t_whole t_begins t_ends r_sorts r_numbers r_length sr ln it z_thrown z_s z_kept z_isKept z_moveMany z_moves z_hands z_troubles z_troubleSorts z_troubleNumbers z_asked z_paint z_leasts z_isSeen z_classMany z_types z_typeCounts z_typeMany z_text z_signs z_at z_lacks z_clauses z_begun z_letters z_firsts z_seconds z_aside z_sorts z_sizes z_items hR p1 p2
  obtain ⟨n, k, m, gk, w, B, hF, hV, hI, hu, hw, ht, hr, hs⟩ := hR
  have hF' := hF
  obtain ⟨hb, ⟨rfl, rfl, rfl⟩, ⟨hz0, hz1, hz2⟩, hw4, hG, hK, hS, hE⟩ := hF
  have hV' := hV
  obtain ⟨hB, ⟨hKy, hAs, rfl, rfl⟩, rfl⟩ := hV
  have hm4 := hb.2.2.2.2
  have h2n := hb.1
  have h6 := hb.2.1
  have hk1 := hb.2.2.1
  have hk4 := hb.2.2.2.1
  have hKS := KS_of hb hG hB
  have hl := hKS.2
  have hL := srt_len B
  have hpos : 0 < B.length := List.length_pos_of_mem hKS.1.2.2.1
  obtain ⟨mv', hd', hM, e1⟩ := r_moves_ (mv := z_moves) (hd := z_hands) (mm := z_moveMany) hb.2.1 hm4 (ZG_of hz0 hz2 hG) (fun i hi => (hG i hi).1) hB
  have ein : f_X10_in (p2.toInt64) 0 1 = some (if (0 : Int32) ≤ p2 ∧ p2 ≤ 1 then 1 else 0) := r_inN (by decide) (by decide)
  by_cases hd : ∃ v, DI n 0 k p1 v
  · obtain ⟨v, hv⟩ := hd
    have hP := pc_Pt h6 hk4 hv
    by_cases hfl : (0 : Int32) ≤ p2 ∧ p2 ≤ 1
    · obtain ⟨pa1, hpa, e2⟩ := r_heavyOf (pa := z_paint) h6 hk1 hk4 hz0 hz1 (fun j hj => (hw4 j hj).2.2) hP
      have hwl := wt_le (n := n) (P := pcode n v) (fun j hj => (hw4 j hj).1) (fun p hp => by have := hP.2.1 p hp; omega)
      obtain ⟨m0, e4, ho⟩ := fq_64 (a := wt n w (pcode n v)) (b := n) (by omega) (by omega) (by omega)
      have hq := (oz_64 ho (by decide) (by decide)).2
      obtain ⟨x', hx', e5, e6⟩ := spread_L p2 h6 hk4 hz0 hw4 hP hpa ho (fun l6_8 l8_8 => (some (nI n)).bind fun t9 => (q_n64 (FP.ddiv l6_8 (FP.i2d t9))).bind fun t10 => if p2 = 0 then ((f_Jxe99ae_doubleToLongBits_ccdee t10).bind fun t12 => some (t12, pa1)) else (some (FP.d2l t10, pa1))) (fun l6_7 l8_7 => (q_n64 (FP.ddiv l6_7 (FP.i2d (nI n)))).bind fun t8 => if p2 = 0 then ((f_X0_ofDouble t8).bind fun t10 => some (t10)) else (some (FP.d2l t8))) n 0 q_fu (.fin false 0 (-1074)) (by omega) (fu_lt (by omega)) (Or.inl rfl)
      obtain ⟨r0, e7, hr0⟩ := oq_64 (b := n) hx' (by decide) (by decide) (by omega) (by omega)
      have hq2 := (oz_64 hr0 (by decide) (by decide)).2
      obtain ⟨f1, f2⟩ := od_64 hr0 (by decide) (by decide)
      refine ⟨(if p2 = 0 then (B64 r0).toInt64 else FP.d2l (B64 r0), pa1), ?_, if p2 = 0 then (B64 r0).toInt64 else FP.d2l (B64 r0), ?_, rfl, RR_mk hF' hV' hI hu hw ht hr hs⟩
      · unfold f_X10_spread
        rw [r_indexOf h6 hk4 hz0 hz1 hv, ob_some, if_neg (idx_ne h6 hk4 hP), ein, ob_some, if_pos hfl, if_neg (show ¬ (1 : Int32) = 0 by decide), e2, ob_some, rd0 hz0, ob_some, e4, hq, ob_some, zer_64]
        refine Eq.trans e5 ?_
        show ((some (nI n)).bind fun t9 => (q_n64 (FP.ddiv (B64 x') (FP.i2d t9))).bind fun t10 => if p2 = 0 then ((f_Jxe99ae_doubleToLongBits_ccdee t10).bind fun t12 => some (t12, pa1)) else (some (FP.d2l t10, pa1))) = _
        rw [ob_some, e7, hq2, ob_some, f2, ob_some]
        split <;> rfl
      · unfold f_X9_spread
        rw [e_pp h6 (by omega) hv, ob_some, if_neg (nI_pos (Pt_31 hP)), e_flag, ob_some, if_pos hfl, if_neg (show ¬ (1 : Int32) = 0 by decide), e_weightOf h6 hk4 hP (fun j hj => (hw4 j hj).2.1), ob_some, e4, hq, ob_some, zer_64]
        refine Eq.trans e6 ?_
        show ((q_n64 (FP.ddiv (B64 x') (FP.i2d (nI n)))).bind fun t8 => if p2 = 0 then ((f_X0_ofDouble t8).bind fun t10 => some (t10)) else (some (FP.d2l t8))) = _
        rw [e7, hq2, ob_some, f1, ob_some]
        split <;> rfl
    · refine ⟨(-9223372036854775808, z_paint), ?_, -9223372036854775808, ?_, rfl, RR_mk hF' hV' hI hu hw ht hr hs⟩
      · unfold f_X10_spread
        rw [r_indexOf h6 hk4 hz0 hz1 hv, ob_some, if_neg (idx_ne h6 hk4 hP), ein, ob_some, if_neg hfl, if_pos rfl]
      · unfold f_X9_spread
        rw [e_pp h6 (by omega) hv, ob_some, if_neg (nI_pos (Pt_31 hP)), e_flag, ob_some, if_neg hfl, if_pos rfl]
  · refine ⟨(-9223372036854775808, z_paint), ?_, -9223372036854775808, ?_, rfl, RR_mk hF' hV' hI hu hw ht hr hs⟩
    · unfold f_X10_spread
      rw [r_indexOf_no (by omega) h6 hk4 hz0 hz1 hd, ob_some, if_pos rfl]
    · unfold f_X9_spread
      rw [e_pp_no h6 (by omega) hd, ob_some, if_pos m1_lt]
