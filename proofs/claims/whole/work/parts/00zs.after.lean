-- ===== the steps: after =====
theorem lst_rows {n k P : Nat} {B C : List Nat} (hn : n ≤ 6) (hB : Gp n B) (hC : Gp n C) (hP : Pt n k P) (h1 : ∀ K ∈ B, ∃ L ∈ C, L / 2 = K / 2) (h2 : ∀ K ∈ C, ∃ L ∈ B, L / 2 = K / 2) : lst n P B = lst n P C := by
  refine lst_one hn hC hP ?_ (fun K hK => ?_)
  · obtain ⟨K, hK, e⟩ := lst_is hn hB hP
    obtain ⟨L, hL, e2⟩ := h1 K hK
    exact ⟨L, hL, by rw [e2]; exact e⟩
  · obtain ⟨L, hL, e⟩ := h2 K hK
    rw [← e]
    exact lst_le hL
theorem LQ_rows {n k : Nat} {B C : List Nat} (hn : n ≤ 6) (hk1 : 1 ≤ k) (hk : k ≤ 4) (hB : Gp n B) (hC : Gp n C) (h1 : ∀ K ∈ B, ∃ L ∈ C, L / 2 = K / 2) (h2 : ∀ K ∈ C, ∃ L ∈ B, L / 2 = K / 2) : LQ n k B (k ^ n) = LQ n k C (k ^ n) := by
  unfold LQ
  refine List.filter_congr (fun P hP => ?_)
  obtain ⟨j, hj, rfl⟩ := List.mem_map.mp hP
  have hPt : Pt n k (pt n k j) := pt_Pt hn (by omega) (by omega)
  rw [lst_rows hn hB hC hPt h1 h2]
/-- the other hand -/
def fl (x : Nat) : Nat := 2 * (x / 2) + (1 - x % 2)
theorem fl_half (x : Nat) : fl x / 2 = x / 2 := by unfold fl; omega
theorem fl_mod (x : Nat) : nI (x % 2) ^^^ 1 = nI (fl x % 2) := by
  have h : x % 2 = 0 ∨ x % 2 = 1 := by omega
  have e : fl x % 2 = 1 - x % 2 := by unfold fl; omega
  rw [e]
  rcases h with h | h
  · rw [h]; decide
  · rw [h]; decide
/-- what holds on the way -/
def AI (n m c : Nat) (gk gz : Nat → Nat) (z0 : Nat → Int32) (S kk : Nat) (z : Nat → Int32) : Prop := S < 2 ^ m ∧ (1 ≤ kk ∧ kk ≤ 4) ∧ z 1 = nI kk ∧ ZG z n m gz ∧ (∀ i, i < m → gz i / 2 = gk i / 2) ∧ (∃ B, gen n (sel S gz m 0) = some B) ∧ z 4 = nI c ∧ ∀ x, 66 ≤ x → x < 82 → z x = z0 x
theorem clr_bit {S c : Nat} (hS : S < 2 ^ 31) (hc : c < 31) : ∃ S', nI S &&& ((1 <<< (nI c &&& 31)) ^^^ (-1)) = nI S' ∧ S' ≤ S ∧ ∀ j, S'.testBit j = true → S.testBit j = true := by
  refine ⟨S &&& (2 ^ c ^^^ 4294967295), ?_, Nat.and_le_left, fun j h => ?_⟩
  · rw [nI_c31 c (by omega), show (-1 : Int32) = nI 4294967295 from by decide, li_1, nI_shl _ (by omega), Nat.one_mul, nI_xor, nI_and]
  · rw [Nat.testBit_and, Bool.and_eq_true] at h
    exact h.1
theorem clr_no {S c : Nat} (hS : S < 2 ^ 31) (hc : c < 31) (h : S.testBit c = false) : nI S &&& ((1 <<< (nI c &&& 31)) ^^^ (-1)) = nI S := by
  rw [nI_c31 c (by omega), show (-1 : Int32) = nI 4294967295 from by decide, li_1, nI_shl _ (by omega), Nat.one_mul, nI_xor, nI_and]
  congr 1
  refine Nat.eq_of_testBit_eq (fun j => ?_)
  rw [Nat.testBit_and, Nat.testBit_xor, Nat.testBit_two_pow, show (4294967295 : Nat) = 2 ^ 32 - 1 from rfl, Nat.testBit_two_pow_sub_one]
  by_cases hj : j = c
  · subst hj
    rw [h, Bool.false_and]
  · by_cases h32 : j < 32
    · rw [decide_eq_true h32, decide_eq_false (fun q : c = j => hj q.symm)]
      cases S.testBit j <;> rfl
    · rw [Nat.testBit_lt_two_pow (Nat.lt_of_lt_of_le hS (Nat.pow_le_pow_right (by decide) (by omega))), Bool.false_and]
theorem sel_bits {S S' m : Nat} {gk : Nat → Nat} (h : ∀ j, S'.testBit j = true → S.testBit j = true) : ∀ g ∈ sel S' gk m 0, g ∈ sel S gk m 0 := fun g hg => by
  obtain ⟨j, -, h2, h3, rfl⟩ := sel_of _ _ _ hg
  exact sel_mem m 0 j (Nat.zero_le _) h2 (h j h3)
/-- one event, in the reference -/
theorem r_happens {n m c : Nat} {gk gz : Nat → Nat} {z0 z mv hd : Nat → Int32} {mm : Int32} {S kk : Nat} {a b : Int32} (hn : n ≤ 6) (hm : m ≤ 4) (hg : ∀ i, i < m → Mv n (gk i)) (hI : AI n m c gk gz z0 S kk z) (hE : ER a b) : ∃ S' kk' gz' z' mm' mv' hd', AI n m c gk gz' z0 S' kk' z' ∧ f_X10_happens a b (nI S) z mm mv hd = some (nI S', z', mm', mv', hd') ∧ (a = 0 → nI kk' = b ∧ S' = S) ∧ (¬ a = 0 → kk' = kk) ∧ (a = 1 → nI S &&& ((1 <<< (b &&& 31)) ^^^ (-1)) = nI S') ∧ (¬ a = 0 → ¬ a = 1 → S' = S) := by
  obtain ⟨hS, hkk, hz1, hZ, hgz, ⟨B, hB⟩, hz4, hz66⟩ := hI
  have hm2 : 2 ^ m ≤ 2 ^ 4 := Nat.pow_le_pow_right (by decide) hm
  have hMz : ∀ i, i < m → Mv n (gz i) := fun i hi => by
    show Rw n (gz i / 2)
    rw [hgz i hi]
    exact hg i hi
  unfold f_X10_happens
  rcases hE with ⟨rfl, j, hj1, hj4, rfl⟩ | ⟨rfl, j, hj, rfl⟩ | ⟨rfl, j, hj, rfl⟩
  · refine ⟨S, j, gz, upd z 1 (nI j), mm, mv, hd, ⟨hS, ⟨hj1, hj4⟩, upd_at _ _ _, ⟨(upd_ne _ (by omega)).trans hZ.1, (upd_ne _ (by omega)).trans hZ.2.1, fun g hg => ⟨fun p hp => (upd_ne _ (by omega)).trans ((hZ.2.2 g hg).1 p hp), (upd_ne _ (by omega)).trans (hZ.2.2 g hg).2⟩⟩, hgz, ⟨B, hB⟩, (upd_ne _ (by omega)).trans hz4, fun x h1 h2 => (upd_ne _ (by omega)).trans (hz66 x h1 h2)⟩, ?_, fun _ => ⟨rfl, rfl⟩, fun q => absurd rfl q, fun q => absurd q (by decide), fun q => absurd rfl q⟩
    rw [if_pos (show nI 0 = (0 : Int32) from rfl), li_1, qe_wt _ _ (by decide) (by decide), ob_some]
  · rw [if_neg (show ¬ nI 1 = (0 : Int32) by decide), r_has (by omega) (by omega), ob_some]
    by_cases hb : S.testBit j = true
    · obtain ⟨S', e, h1, h2⟩ := clr_bit (S := S) (c := j) (by omega) (by omega)
      obtain ⟨C, hC⟩ := gen_sub (sel_bits (gk := gz) (m := m) h2) hB
      refine ⟨S', kk, gz, z, mm, mv, hd, ⟨by omega, hkk, hz1, hZ, hgz, ⟨C, hC⟩, hz4, hz66⟩, ?_, fun q => absurd q (by decide), fun _ => rfl, fun _ => e, fun _ q => absurd rfl q⟩
      rw [if_pos hb, if_neg (show ¬ (1 : Int32) = 0 by decide), if_pos (show nI 1 = (1 : Int32) from rfl), e]
    · refine ⟨S, kk, gz, z, mm, mv, hd, ⟨hS, hkk, hz1, hZ, hgz, ⟨B, hB⟩, hz4, hz66⟩, ?_, fun q => absurd q (by decide), fun _ => rfl, fun _ => clr_no (by omega) (by omega) (Bool.eq_false_iff.mpr hb), fun _ q => absurd rfl q⟩
      rw [if_neg hb, if_pos rfl]
  · rw [if_neg (show ¬ nI 2 = (0 : Int32) by decide), r_has (by omega) (by omega), ob_some]
    by_cases hb : S.testBit j = true
    · have hjm : j < m := by
        have h3 : ¬ m ≤ j := fun q => by
          have := Nat.testBit_lt_two_pow (x := S) (i := j) (Nat.lt_of_lt_of_le hS (Nat.pow_le_pow_right (by decide) q))
          rw [this] at hb
          cases hb
        omega
      have e33 : (33 : Int32) + nI j = nI (33 + j) := by rw [li_33, nI_add]
      let gz2 : Nat → Nat := fun g => if g = j then fl (gz j) else gz g
      have g2j : gz2 j = fl (gz j) := if_pos rfl
      have g2n : ∀ g, g ≠ j → gz2 g = gz g := fun g h => if_neg h
      let z2 : Nat → Int32 := upd z (33 + j) (nI (fl (gz j) % 2))
      have z2n : ∀ x, x ≠ 33 + j → z2 x = z x := fun x h => upd_ne _ h
      have z2j : z2 (33 + j) = nI (fl (gz j) % 2) := upd_at _ _ _
      have hZ2 : ZG z2 n m gz2 := ⟨(z2n 0 (by omega)).trans hZ.1, (z2n 2 (by omega)).trans hZ.2.1, fun g hg => by
        by_cases q : g = j
        · subst q
          rw [g2j, fl_half]
          exact ⟨fun p hp => (z2n _ (by omega)).trans ((hZ.2.2 g hg).1 p hp), z2j⟩
        · rw [g2n g q]
          exact ⟨fun p hp => (z2n _ (by omega)).trans ((hZ.2.2 g hg).1 p hp), (z2n _ (by omega)).trans (hZ.2.2 g hg).2⟩⟩
      have hgz2 : ∀ i, i < m → gz2 i / 2 = gk i / 2 := fun i hi => by
        by_cases q : i = j
        · subst q
          rw [g2j, fl_half, hgz i hi]
        · rw [g2n i q, hgz i hi]
      have hMz2 : ∀ i, i < m → Mv n (gz2 i) := fun i hi => by
        show Rw n (gz2 i / 2)
        rw [hgz2 i hi]
        exact hg i hi
      have er : q_rd z 82 (nI (33 + j)) = some (nI (gz j % 2)) := by rw [qe_rd _ (by omega) (by decide), (hZ.2.2 j hjm).2]
      have ew : ∀ (q : Nat → Int32) (v : Int32), q_wt q 82 (nI (33 + j)) v = some (upd q (33 + j) v) := fun q v => qe_wt _ _ (by omega) (by decide)
      have er2 : q_rd z2 82 (nI (33 + j)) = some (nI (fl (gz j) % 2)) := by rw [qe_rd _ (by omega) (by decide), z2j]
      obtain ⟨m1, m2⟩ := r_moves (mv := mv) (hd := hd) (mm := mm) (set := S) hn hm hZ2 (by omega) (fun i hi _ => hMz2 i hi)
      rw [if_pos hb, if_neg (show ¬ (1 : Int32) = 0 by decide), if_neg (show ¬ nI 2 = (1 : Int32) by decide), e33, er, ob_some, fl_mod, ew, ob_some]
      cases hgen : gen n (sel S gz2 m 0) with
      | some C =>
        obtain ⟨mv2, hd2, -, e⟩ := m1 C hgen
        refine ⟨S, kk, gz2, z2, nI C.length, mv2, hd2, ⟨hS, hkk, (z2n 1 (by omega)).trans hz1, hZ2, hgz2, ⟨C, hgen⟩, (z2n 4 (by omega)).trans hz4, fun x h1 h2 => (z2n x (by omega)).trans (hz66 x h1 h2)⟩, ?_, fun q => absurd q (by decide), fun _ => rfl, fun q => absurd q (by decide), fun _ _ => rfl⟩
        rw [show f_X10_moves (nI S) (upd z (33 + j) (nI (fl (gz j) % 2))) mm mv hd = _ from e, ob_some, if_neg (show ¬ (1 : Int32) = 0 by decide)]
      | none =>
        obtain ⟨mm2, mv2, hd2, e⟩ := m2 hgen
        have z3 : ∀ x, upd z2 (33 + j) (nI (gz j % 2)) x = z x := fun x => by
          by_cases q : x = 33 + j
          · subst q
            rw [upd_at, (hZ.2.2 j hjm).2]
          · rw [upd_ne _ q, z2n x q]
        refine ⟨S, kk, gz, upd z2 (33 + j) (nI (gz j % 2)), mm2, mv2, hd2, ⟨hS, hkk, (z3 1).trans hz1, ⟨(z3 0).trans hZ.1, (z3 2).trans hZ.2.1, fun g hg => ⟨fun p hp => (z3 _).trans ((hZ.2.2 g hg).1 p hp), (z3 _).trans (hZ.2.2 g hg).2⟩⟩, hgz, ⟨B, hB⟩, (z3 4).trans hz4, fun x h1 h2 => (z3 x).trans (hz66 x h1 h2)⟩, ?_, fun q => absurd q (by decide), fun _ => rfl, fun q => absurd q (by decide), fun _ _ => rfl⟩
        have effl : fl (fl (gz j)) % 2 = gz j % 2 := by unfold fl; omega
        rw [show f_X10_moves (nI S) (upd z (33 + j) (nI (fl (gz j) % 2))) mm mv hd = _ from e, ob_some, if_pos rfl, show q_rd (upd z (33 + j) (nI (fl (gz j) % 2))) 82 (nI (33 + j)) = _ from er2, ob_some, fl_mod, effl, ew, ob_some]
    · refine ⟨S, kk, gz, z, mm, mv, hd, ⟨hS, hkk, hz1, hZ, hgz, ⟨B, hB⟩, hz4, hz66⟩, ?_, fun q => absurd q (by decide), fun _ => rfl, fun q => absurd q (by decide), fun _ _ => rfl⟩
      rw [if_neg hb, if_pos rfl]
theorem after_L {n m c : Nat} {gk : Nat → Nat} {z0 ew en : Nat → Int32} (hn : n ≤ 6) (hm : m ≤ 4) (hc : c ≤ 8) (hg : ∀ i, i < m → Mv n (gk i)) (hE : ∀ j, j < c → ew j = z0 (66 + 2 * j) ∧ en j = z0 (66 + 2 * j + 1) ∧ ER (ew j) (en j)) (K : Int32 → Int32 → (Nat → Int32) → Int32 → (Nat → Int32) → (Nat → Int32) → Option (Int32 × (Nat → Int32) × Int32 × (Nat → Int32) × (Nat → Int32) × (Nat → Int32) × (Nat → Int32) × (Nat → Int32) × Int32 × (Nat → Int32))) (KC : Int32 → Int32 → Int32 → Option (Int32 × (Nat → Int32) × (Nat → Int32) × Int32 × Int32 × Int32 × (Nat → Int32) × (Nat → Int32) × Int32 × Int32)) : ∀ d j fu S kk gz z mm mv hd, j + d = c → d < fu → AI n m c gk gz z0 S kk z → ∃ S' kk' gz' z' mm' mv' hd', AI n m c gk gz' z0 S' kk' z' ∧ f_X10_after_L18 K fu (nI S) (nI j) z mm mv hd = K (nI S') (nI c) z' mm' mv' hd' ∧ f_X9_after_L21 (nI c) ew en KC fu (nI kk) (nI S) (nI j) = KC (nI kk') (nI S') (nI c)
  | d, j, 0, _, _, _, _, _, _, _, _, h, _ => by omega
  | 0, j, fu + 1, S, kk, gz, z, mm, mv, hd, hj, _, hI => by
    obtain rfl : j = c := by omega
    refine ⟨S, kk, gz, z, mm, mv, hd, hI, ?_, ?_⟩
    · rw [f_X10_after_L18, show q_rd z 82 4 = some (nI j) from by rw [li_4, qe_rd _ (by decide) (by decide), hI.2.2.2.2.2.2.1], ob_some, if_pos (nI_le (by omega) (by omega))]
    · rw [f_X9_after_L21, if_pos (nI_le (by omega) (by omega))]
  | d + 1, j, fu + 1, S, kk, gz, z, mm, mv, hd, hj, hfu, hI => by
    obtain ⟨w1, w2, w3⟩ := hE j (by omega)
    obtain ⟨S1, kk1, gz1, z1, mm1, mv1, hd1, hI1, e1, c0, c1, c2, c3⟩ := r_happens (mm := mm) (mv := mv) (hd := hd) hn hm hg hI w3
    obtain ⟨S', kk', gz', z', mm', mv', hd', hI', e2, e3⟩ := after_L hn hm hc hg hE K KC d (j + 1) fu S1 kk1 gz1 z1 mm1 mv1 hd1 (by omega) (by omega) hI1
    have h66 := hI.2.2.2.2.2.2.2
    refine ⟨S', kk', gz', z', mm', mv', hd', hI', ?_, ?_⟩
    · rw [f_X10_after_L18, show q_rd z 82 4 = some (nI c) from by rw [li_4, qe_rd _ (by decide) (by decide), hI.2.2.2.2.2.2.1], ob_some, if_neg (nI_ge (by omega) (by omega)), show (66 : Int32) + 2 * nI j = nI (66 + 2 * j) from by rw [li_2, li_66, nI_mul, nI_add], qe_rd _ (by omega) (by decide), ob_some, nI_1, qe_rd _ (by omega) (by decide), ob_some, h66 _ (by omega) (by omega), h66 _ (by omega) (by omega), ← w1, ← w2, e1, ob_some, nI_1]
      exact e2
    · rw [f_X9_after_L21, if_neg (nI_ge (by omega) (by omega)), qe_rd _ (by omega) (by decide), ob_some]
      by_cases h0 : ew j = 0
      · obtain ⟨a1, a2⟩ := c0 h0
        rw [if_pos h0, qe_rd _ (by omega) (by decide), ob_some, nI_1, ← a1, ← a2]
        exact e3
      · rw [if_neg h0, ob_some]
        have a1 := c1 h0
        by_cases h1 : ew j = 1
        · rw [if_pos h1, qe_rd _ (by omega) (by decide), ob_some, nI_1, c2 h1, ← a1]
          exact e3
        · rw [if_neg h1, nI_1, ← a1, ← c3 h0 h1]
          exact e3
theorem op_after : OP_after RR := by
  intro x_hasImage f_places f_kinds f_weights f_howManyGenerators f_generators f_racks f_howManySeen f_seenFirst f_seenSecond f_seenIs f_seenPlaces f_howManyEvents f_eventWhat f_eventNumber g_places g_kinds g_weights g_howManyGenerators g_generators g_racks g_howManySeen g_seenFirst g_seenSecond g_seenIs g_seenPlaces g_howManyEvents g_eventWhat g_eventNumber v_keys v_asFound v_found v_turns v_places p_keys p_asFound p_found p_turns p_places i_sort i_howOften i_sorts i_moves n_u u_leasts u_howMany u_known n_w w_leasts w_howMany w_known t_signs t_length t_whole t_begins t_ends r_sorts r_numbers r_length sr ln it z_thrown z_s z_kept z_isKept z_moveMany z_moves z_hands z_troubles z_troubleSorts z_troubleNumbers z_asked z_paint z_leasts z_isSeen z_classMany z_types z_typeCounts z_typeMany z_text z_signs z_at z_lacks z_clauses z_begun z_letters z_firsts z_seconds z_aside z_sorts z_sizes z_items hR
  obtain ⟨n, k, m, gk, w, B, hF, hV, hI, hu, hw, ht, hr, hs⟩ := hR
  have hF' := hF
  have hV' := hV
  obtain ⟨hb, ⟨rfl, rfl, rfl⟩, ⟨hz0, hz1, hz2⟩, hw4, hG, hK, hS, ⟨c, hc8, hfe, hz4, hEj⟩⟩ := hF
  subst hfe
  obtain ⟨hB, -⟩ := hV
  have hm4 := hb.2.2.2.2
  have h2n := hb.1
  have h6 := hb.2.1
  have hk1 := hb.2.2.1
  have hk4 := hb.2.2.2.1
  have hset := full_lt hm4
  have hg : ∀ i, i < m → Mv n (gk i) := fun i hi => (hG i hi).1
  obtain ⟨za, hza, ea⟩ := r_copies z_s z_aside
  obtain ⟨S', kk', gz', z', mm', mv', hd', ⟨hS', hkk', hz1', hZ', hgz', ⟨C, hC⟩, -, -⟩, eR, eC⟩ := after_L (z0 := z_s) h6 hm4 hc8 hg hEj (fun l1_3 l2_3 z_s_3 z_moveMany_3 z_moves_3 z_hands_3 => (f_X10_moves l1_3 z_s_3 z_moveMany_3 z_moves_3 z_hands_3).bind fun t4 => (f_X10_classes 1 z_s_3 t4.2.1 t4.2.2.1 t4.2.2.2 z_paint z_leasts z_isSeen z_classMany).bind fun t5 => (f_X10_copies za z_s_3).bind fun t6 => some (t5.2.2.2, t6, t4.2.1, t4.2.2.1, t4.2.2.2, t5.1, t5.2.1, t5.2.2.1, t5.2.2.2, za)) (fun l1_2 l2_2 l3_2 => (f_X5_grow l2_2 (nI n) p_keys p_asFound p_found p_turns p_places f_generators).bind fun t3 => (f_X4_fill 1 i_sort i_howOften i_sorts i_moves t3.2.1 t3.2.2.2.1 t3.2.2.2.2.1 t3.2.2.2.2.2).bind fun t4 => (f_X4_classesFor l1_2 t4.1 t4.2.1 t4.2.2.1 t4.2.2.2).bind fun t5 => some ((t5 : Int64).toInt32, t3.2.1, t3.2.2.1, t3.2.2.2.1, t3.2.2.2.2.1, t3.2.2.2.2.2, t4.1, t4.2.1, t4.2.2.1, t4.2.2.2)) c 0 q_fu (2 ^ m - 1) k gk z_s z_moveMany z_moves z_hands (by omega) (fu_lt (by omega)) ⟨hset.1, ⟨hk1, hk4⟩, hz1, ZG_of hz0 hz2 hG, fun _ _ => rfl, ⟨B, hB⟩, hz4, fun _ _ _ => rfl⟩
  -- the moves of both sides
  have hm2 : 2 ^ m ≤ 2 ^ 4 := Nat.pow_le_pow_right (by decide) hm4
  have hMz : ∀ i, i < m → Mv n (gz' i) := fun i hi => by
    show Rw n (gz' i / 2)
    rw [hgz' i hi]
    exact hg i hi
  have hKC : KS C n := ⟨gen_Gp h6 (sel_Mv hMz) hC, (gen_spec hC).1.2.2.2⟩
  obtain ⟨hD, hKD⟩ := gen_part (s := S') h6 hg hB
  have rows1 : ∀ K ∈ (gen n (sel S' gk m 0)).getD [], ∃ L ∈ C, L / 2 = K / 2 := fun K hK => by
    obtain ⟨y, hy, e⟩ := Rch_rows (hs := sel S' gz' m 0) (fun g hg' => by
      obtain ⟨j, -, q2, q3, rfl⟩ := sel_of _ _ _ hg'
      exact ⟨gz' j, sel_mem m 0 j (Nat.zero_le _) q2 q3, hgz' j (by omega)⟩) (((gen_spec hD).2 K).mp hK)
    exact ⟨y, ((gen_spec hC).2 y).mpr hy, e⟩
  have rows2 : ∀ K ∈ C, ∃ L ∈ (gen n (sel S' gk m 0)).getD [], L / 2 = K / 2 := fun K hK => by
    obtain ⟨y, hy, e⟩ := Rch_rows (hs := sel S' gk m 0) (fun g hg' => by
      obtain ⟨j, -, q2, q3, rfl⟩ := sel_of _ _ _ hg'
      exact ⟨gk j, sel_mem m 0 j (Nat.zero_le _) q2 q3, (hgz' j (by omega)).symm⟩) (((gen_spec hC).2 K).mp hK)
    exact ⟨y, ((gen_spec hD).2 y).mpr hy, e⟩
  have hLQ := LQ_rows (k := kk') h6 hkk'.1 hkk'.2 hKD.1 hKC.1 rows1 rows2
  obtain ⟨mv2, hd2, hM2, em⟩ := (r_moves (mv := mv') (hd := hd') (mm := mm') (set := S') h6 hm4 hZ' (by omega) (fun i hi _ => hMz i hi)).1 C hC
  obtain ⟨pa2, le2, se2, -, ec⟩ := r_classes (pa := z_paint) (le := z_leasts) (se := z_isSeen) (cm := z_classMany) (b := 1) h6 hkk'.1 hkk'.2 hZ'.1 hz1' (by omega) hKC hM2
  obtain ⟨z3, hz3, ez⟩ := r_copies za z'
  obtain ⟨k2, a2, f2, t2, hVS, eg⟩ := (e_grow (set := S') (keys := p_keys) (asF := p_asFound) (found := p_found) (turns := p_turns) (pl := p_places) (gens := f_generators) (gk := gk) h6 (by omega) (fun j hj hb' => by
    have hjm : j < m := by
      have h3 : ¬ m ≤ j := fun q => by
        have := Nat.testBit_lt_two_pow (x := S') (i := j) (Nat.lt_of_lt_of_le hS' (Nat.pow_le_pow_right (by decide) q))
        rw [this] at hb'
        cases hb'
      omega
    exact ⟨(hG j hjm).2.1, hg j hjm⟩)).1 _ (by rw [sel_4 hm4 hS']; exact hD)
  obtain ⟨hAK, -, rfl, rfl⟩ := hVS
  obtain ⟨so', of', ss', hIX, ef⟩ := e_fill (so := i_sort) (of_ := i_howOften) (ss := i_sorts) (mo := i_moves) (b := 1) h2n h6 (by omega) hKD hAK
  have ecf := e_classesFor (x := kk') h2n h6 (by omega) (show (1 : Nat) ≤ 1 by omega) hKD hIX
  have emn := mny_k (k := kk') h2n h6 hkk'.1 (by omega) (BY_Gp (b := 1) hKD.1)
  refine ⟨(nI (LQ n kk' (BY 1 C) (kk' ^ n)).length, z3, nI C.length, mv2, hd2, pa2, le2, se2, nI (LQ n kk' (BY 1 C) (kk' ^ n)).length, za), ?_, (nI (LQ n kk' (BY 1 C) (kk' ^ n)).length, k2, a2, nI ((gen n (sel S' gk m 0)).getD []).length, nI (((gen n (sel S' gk m 0)).getD []).countP (fun K => decide (K % 2 = 0))), nI n, so', of', ss', nI (BY 1 ((gen n (sel S' gk m 0)).getD [])).length), ?_, rfl, RR_mk (FR_cong hF' (fun _ _ => rfl) (fun _ _ => rfl) (fun _ _ => rfl) (fun _ _ => rfl) (fun _ _ => rfl) (fun _ _ => rfl) (fun _ _ => rfl) (fun _ _ => rfl) (fun _ _ => rfl) (fun x hx => (hz3 x hx).trans (hza x hx))) hV' hI hu hw ht hr hs⟩
  · unfold f_X10_after
    rw [ea, ob_some, r_all hm4 hz2, ob_some]
    refine Eq.trans eR ?_
    rw [em, ob_some, show f_X10_classes 1 z' (nI C.length) mv2 hd2 z_paint z_leasts z_isSeen z_classMany = _ from ec, ob_some, ez, ob_some]
  · unfold f_X9_after f_X9_lowestBits
    rw [full_I (by omega), ob_some]
    refine Eq.trans eC ?_
    rw [eg, ob_some, show f_X4_fill 1 i_sort i_howOften i_sorts i_moves k2 (nI ((gen n (sel S' gk m 0)).getD []).length) (nI (((gen n (sel S' gk m 0)).getD []).countP (fun K => decide (K % 2 = 0)))) (nI n) = _ from ef, ob_some, ecf, ob_some, lN_i, emn, show LQ n kk' (BY 1 ((gen n (sel S' gk m 0)).getD [])) (kk' ^ n) = LQ n kk' (BY 1 C) (kk' ^ n) from hLQ]
