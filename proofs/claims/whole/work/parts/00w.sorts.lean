-- ===== the reference puts its moves in order =====
def sw (L : List Nat) (a b : Nat) : List Nat := (L.set a (L.getD b 0)).set b (L.getD a 0)
theorem getD_el {L : List Nat} {i : Nat} (h : i < L.length) : L.getD i 0 = L[i] := by
  rw [List.getD_eq_getElem?_getD, List.getElem?_eq_getElem h]
  rfl
theorem sw_perm {L : List Nat} {a b : Nat} (ha : a < L.length) (hb : b < L.length) : (sw L a b).Perm L := by
  unfold sw
  rw [getD_el ha, getD_el hb]
  exact List.set_set_perm ha hb
theorem sw_len {L : List Nat} {a b : Nat} : (sw L a b).length = L.length := by unfold sw; rw [List.length_set, List.length_set]
theorem sw_at {L : List Nat} {a b j : Nat} (ha : a < L.length) (hb : b < L.length) (hj : j < L.length) : (sw L a b).getD j 0 = if j = a then L.getD b 0 else if j = b then L.getD a 0 else L.getD j 0 := by
  unfold sw
  rw [List.getD_eq_getElem?_getD, List.getElem?_set, List.getElem?_set, List.length_set]
  by_cases h1 : b = j
  · subst h1
    rw [if_pos rfl, if_pos hb]
    by_cases h2 : b = a
    · subst h2
      rw [if_pos rfl]; rfl
    · rw [if_neg h2, if_pos rfl]; rfl
  · rw [if_neg h1]
    by_cases h2 : a = j
    · subst h2
      rw [if_pos rfl, if_pos ha, if_pos rfl]; rfl
    · rw [if_neg h2, if_neg (fun e => h2 e.symm), if_neg (fun e => h1 e.symm), List.getD_eq_getElem?_getD]
def swp (mv : Nat → Int32) (a b i : Nat) : Nat → Int32 := fun x => if 6 * a ≤ x ∧ x < 6 * a + i then mv (6 * b + (x - 6 * a)) else if 6 * b ≤ x ∧ x < 6 * b + i then mv (6 * a + (x - 6 * b)) else mv x
theorem swp_succ (mv : Nat → Int32) (a b i : Nat) (hi : i < 6) : upd (upd (swp mv a b i) (6 * a + i) (swp mv a b i (6 * b + i))) (6 * b + i) (swp mv a b i (6 * a + i)) = swp mv a b (i + 1) := by
  have e1 : swp mv a b i (6 * b + i) = mv (6 * b + i) := by
    unfold swp
    rw [if_neg (by omega), if_neg (by omega)]
  have e2 : swp mv a b i (6 * a + i) = mv (6 * a + i) := by
    unfold swp
    rw [if_neg (by omega), if_neg (by omega)]
  rw [e1, e2]
  funext x
  by_cases h1 : x = 6 * b + i
  · subst h1
    rw [upd_at]
    unfold swp
    by_cases hab : a = b
    · subst hab
      rw [if_pos (by omega)]
      congr 1
      omega
    · rw [if_neg (by omega), if_pos (by omega)]
      congr 1
      omega
  · rw [upd_ne _ h1]
    by_cases h2 : x = 6 * a + i
    · subst h2
      rw [upd_at]
      unfold swp
      rw [if_pos (by omega)]
      congr 1
      omega
    · rw [upd_ne _ h2]
      unfold swp
      by_cases h3 : 6 * a ≤ x ∧ x < 6 * a + i
      · rw [if_pos h3, if_pos (show 6 * a ≤ x ∧ x < 6 * a + (i + 1) by omega)]
      · rw [if_neg h3, if_neg (show ¬ (6 * a ≤ x ∧ x < 6 * a + (i + 1)) by omega)]
        by_cases h4 : 6 * b ≤ x ∧ x < 6 * b + i
        · rw [if_pos h4, if_pos (show 6 * b ≤ x ∧ x < 6 * b + (i + 1) by omega)]
        · rw [if_neg h4, if_neg (show ¬ (6 * b ≤ x ∧ x < 6 * b + (i + 1)) by omega)]
theorem swp_0 (mv : Nat → Int32) (a b : Nat) : swp mv a b 0 = mv := by
  funext x
  unfold swp
  rw [if_neg (by omega), if_neg (by omega)]
theorem r_swap_L {a b : Nat} (mv : Nat → Int32) (ha : a < 121) (hb : b < 121) (K : Int32 → (Nat → Int32) → Option ((Nat → Int32) × (Nat → Int32))) : ∀ d i fu, i + d = 6 → d < fu → f_X10_changePlaces_L2 (nI a) (nI b) K fu (nI i) (swp mv a b i) = K (nI 6) (swp mv a b 6)
  | d, i, 0, _, h => by omega
  | 0, i, fu + 1, hi, _ => by
    rw [f_X10_changePlaces_L2, li_6, if_pos (nI_le (by omega) (by omega)), show i = 6 by omega]
  | d + 1, i, fu + 1, hi, hfu => by
    rw [f_X10_changePlaces_L2, li_6, if_neg (nI_ge (by omega) (by omega)), nI_mul, nI_mul, nI_add, nI_add, qe_rd _ (by omega) (by decide), ob_some, qe_rd _ (by omega) (by decide), ob_some, qe_wt _ _ (by omega) (by decide), ob_some, qe_wt _ _ (by omega) (by decide), ob_some, nI_1, swp_succ _ _ _ _ (by omega)]
    exact r_swap_L mv ha hb K d (i + 1) fu (by omega) (by omega)
theorem r_swap {mv hd : Nat → Int32} {n a b : Nat} {L : List Nat} (hn : n ≤ 6) (hl : L.length ≤ 121) (ha : a < L.length) (hb : b < L.length) (hA : MA mv hd n L) : ∃ mv' hd', f_X10_changePlaces (nI a) (nI b) mv hd = some (mv', hd') ∧ MA mv' hd' n (sw L a b) := by
  unfold f_X10_changePlaces
  have h := r_swap_L mv (show a < 121 by omega) (show b < 121 by omega) (fun _ z_moves_1 => (q_rd hd 121 (nI a)).bind fun t2 => (q_rd hd 121 (nI b)).bind fun t3 => (q_wt hd 121 (nI a) t3).bind fun t4 => (q_wt t4 121 (nI b) t2).bind fun t5 => some (z_moves_1, t5)) 6 0 q_fu (by omega) (fu_lt (by omega))
  rw [swp_0] at h
  rw [show (0 : Int32) = nI 0 from rfl, h, qe_rd _ (by omega) (by decide), ob_some, qe_rd _ (by omega) (by decide), ob_some, qe_wt _ _ (by omega) (by decide), ob_some, qe_wt _ _ (by omega) (by decide), ob_some]
  refine ⟨_, _, rfl, fun j hj => ?_⟩
  rw [sw_len] at hj
  rw [sw_at ha hb hj]
  have hA1 := hA a ha
  have hB1 := hA b hb
  have hJ1 := hA j hj
  by_cases h1 : j = a
  · subst h1
    rw [if_pos rfl]
    refine ⟨fun p hp => ?_, ?_⟩
    · unfold swp
      rw [if_pos (by omega), show 6 * b + (6 * j + p - 6 * j) = 6 * b + p by omega]
      exact hB1.1 p hp
    · by_cases h2 : j = b
      · subst h2; rw [upd_at]; exact hA1.2
      · rw [upd_ne _ h2, upd_at]; exact hB1.2
  · rw [if_neg h1]
    by_cases h2 : j = b
    · subst h2
      rw [if_pos rfl, upd_at]
      refine ⟨fun p hp => ?_, hA1.2⟩
      unfold swp
      rw [if_neg (by omega), if_pos (by omega), show 6 * a + (6 * j + p - 6 * j) = 6 * a + p by omega]
      exact hA1.1 p hp
    · rw [if_neg h2, upd_ne _ h2, upd_ne _ h1]
      refine ⟨fun p hp => ?_, hJ1.2⟩
      unfold swp
      rw [if_neg (by omega), if_neg (by omega)]
      exact hJ1.1 p hp
/-- the least of what is left -/
theorem r_least_L {z mv hd : Nat → Int32} {n a : Nat} {a1 : Int32} {L : List Nat} (hn : n ≤ 6) (hz : z 0 = nI n) (hl : L.length ≤ 120) (hM : ∀ x ∈ L, Mv n x) (hA : MA mv hd n L) (K : Int32 → Int32 → Option ((Nat → Int32) × (Nat → Int32))) : ∀ d i fu l, i + d = L.length → a < i → d < fu → l < L.length → a ≤ l → (∀ j, a ≤ j → j < i → L.getD l 0 ≤ L.getD j 0) → ∃ l', l' < L.length ∧ a ≤ l' ∧ (∀ j, a ≤ j → j < L.length → L.getD l' 0 ≤ L.getD j 0) ∧ f_X10_sorts_L16 a1 z (nI L.length) mv hd K fu (nI l) (nI i) = K (nI l') (nI L.length)
  | d, i, 0, _, _, _, h, _, _, _ => by omega
  | 0, i, fu + 1, l, hi, _, _, hll, hal, hmin => by
    rw [f_X10_sorts_L16, if_pos (nI_le (by omega) (by omega)), show i = L.length by omega]
    exact ⟨l, hll, hal, fun j h1 h2 => hmin j h1 (by omega), rfl⟩
  | d + 1, i, fu + 1, l, hi, hai0, hfu, hll, hal, hmin => by
    have hiL : i < L.length := by omega
    have hKi := hM _ (getD_mem hiL)
    have hKl := hM _ (getD_mem hll)
    have n1 := num_lt (n := n) (K := L.getD i 0) hn
    have n2 := num_lt (n := n) (K := L.getD l 0) hn
    rw [f_X10_sorts_L16, if_neg (nI_ge (by omega) (by omega)), r_numberOf hn hz (by omega) (hA i hiL).1, ob_some, r_numberOf hn hz (by omega) (hA l hll).1, ob_some, nI_1]
    have hnext : L.getD i 0 < L.getD l 0 → ∃ l', l' < L.length ∧ a ≤ l' ∧ (∀ j, a ≤ j → j < L.length → L.getD l' 0 ≤ L.getD j 0) ∧ f_X10_sorts_L16 a1 z (nI L.length) mv hd K fu (nI i) (nI (i + 1)) = K (nI l') (nI L.length) := by
      intro hlt
      refine r_least_L hn hz hl hM hA K d (i + 1) fu i (by omega) (by omega) (by omega) hiL (by omega) (fun j h1 h2 => ?_)
      rcases Nat.lt_succ_iff_lt_or_eq.mp h2 with h2 | rfl
      · have := hmin j h1 h2
        omega
      · exact Nat.le_refl _
    have hstay : L.getD l 0 ≤ L.getD i 0 → ∃ l', l' < L.length ∧ a ≤ l' ∧ (∀ j, a ≤ j → j < L.length → L.getD l' 0 ≤ L.getD j 0) ∧ f_X10_sorts_L16 a1 z (nI L.length) mv hd K fu (nI l) (nI (i + 1)) = K (nI l') (nI L.length) := by
      intro hle
      refine r_least_L hn hz hl hM hA K d (i + 1) fu l (by omega) (by omega) (by omega) hll hal (fun j h1 h2 => ?_)
      rcases Nat.lt_succ_iff_lt_or_eq.mp h2 with h2 | rfl
      · exact hmin j h1 h2
      · exact hle
    have o1 := num_ord hn hKi hKl
    have o2 := num_eq hn hKi hKl
    rcases Nat.lt_trichotomy (num n (L.getD i 0)) (num n (L.getD l 0)) with h | h | h
    · have e1 : nI (num n (L.getD i 0)) - nI (num n (L.getD l 0)) < 0 := by
        have t1 := nI_toInt (n := num n (L.getD i 0)) (by omega)
        have t2 := nI_toInt (n := num n (L.getD l 0)) (by omega)
        rw [fa_lt, fb_subI (by rw [t1, t2]; omega) (by rw [t1, t2]; omega), t1, t2, show (0 : Int32).toInt = 0 from by decide]
        omega
      rw [if_pos e1]
      exact hnext (by have := o1.mp h; omega)
    · have h3 := o2.mp h
      rw [h, Int32.sub_self, if_neg (by decide), if_pos rfl, qe_rd _ (by omega) (by decide), ob_some, qe_rd _ (by omega) (by decide), ob_some, (hA i hiL).2, (hA l hll).2]
      by_cases h4 : L.getD l 0 % 2 ≤ L.getD i 0 % 2
      · rw [if_pos (nI_le h4 (by omega))]
        exact hstay (by omega)
      · rw [if_neg (nI_ge (by omega) (by omega))]
        exact hnext (by omega)
    · rw [nI_sub (by omega), if_neg (nI_pos (by omega)), if_neg (nI_ne0 (by omega) (by omega))]
      have h5 : ¬ L.getD i 0 / 2 < L.getD l 0 / 2 := fun q => by have := o1.mpr q; omega
      have h6 : ¬ L.getD i 0 / 2 = L.getD l 0 / 2 := fun q => by have := o2.mpr q; omega
      exact hstay (by omega)
theorem nodup_ne {L : List Nat} {i j : Nat} (h : L.Nodup) (hi : i < L.length) (hj : j < L.length) (hij : i ≠ j) : L.getD i 0 ≠ L.getD j 0 := by
  rw [getD_el hi, getD_el hj]
  intro e
  rcases Nat.lt_trichotomy i j with h1 | h1 | h1
  · exact List.pairwise_iff_getElem.mp h i j hi hj h1 e
  · exact hij h1
  · exact List.pairwise_iff_getElem.mp h j i hj hi h1 e.symm
theorem r_sorts_L {z : Nat → Int32} {n : Nat} {B : List Nat} (hn : n ≤ 6) (hz : z 0 = nI n) (hl : B.length ≤ 120) (hN : B.Nodup) (hM : ∀ x ∈ B, Mv n x) (K : Int32 → (Nat → Int32) → (Nat → Int32) → Option ((Nat → Int32) × (Nat → Int32))) : ∀ d a fu L mv hd, a + d = B.length → d < fu → L.Perm B → MA mv hd n L → (∀ i j, i < a → i < j → j < L.length → L.getD i 0 < L.getD j 0) → ∃ mv' hd', MA mv' hd' n (srt B) ∧ f_X10_sorts_L2 z (nI B.length) K fu (nI a) mv hd = K (nI B.length) mv' hd'
  | d, a, 0, _, _, _, _, h, _, _, _ => by omega
  | 0, a, fu + 1, L, mv, hd, ha, _, hP, hA, hS => by
    have hL := hP.length_eq
    rw [f_X10_sorts_L2, if_pos (nI_le (by omega) (by omega)), show a = B.length by omega]
    refine ⟨mv, hd, ?_, rfl⟩
    rw [← srt_one (L := L) (fun i j hij hj => hS i j (by omega) hij hj) hP]
    exact hA
  | d + 1, a, fu + 1, L, mv, hd, ha, hfu, hP, hA, hS => by
    have hL := hP.length_eq
    have haL : a < L.length := by omega
    have hML : ∀ x ∈ L, Mv n x := fun x hx => hM x (hP.mem_iff.mp hx)
    have hNL : L.Nodup := hP.symm.nodup hN
    rw [f_X10_sorts_L2, if_neg (nI_ge (by omega) (by omega)), ← hL, nI_1]
    obtain ⟨l, hl1, hl2, hl3, e⟩ := r_least_L (a := a) (a1 := nI a) (L := L) hn hz (by omega) hML hA (fun l2_2 _ => (f_X10_changePlaces (nI a) l2_2 mv hd).bind fun t3 => f_X10_sorts_L2 z (nI L.length) K fu (nI (a + 1)) t3.1 t3.2) (L.length - (a + 1)) (a + 1) q_fu a (by omega) (by omega) (fu_lt (by omega)) haL (Nat.le_refl _) (fun j h1 h2 => by rw [show j = a by omega]; exact Nat.le_refl _)
    rw [e]
    obtain ⟨mv1, hd1, e1, hA1⟩ := r_swap hn (by omega) haL hl1 hA
    rw [e1, ob_some]
    rw [hL]
    refine r_sorts_L hn hz hl hN hM K d (a + 1) fu (sw L a l) mv1 hd1 (by omega) (by omega) ((sw_perm haL hl1).trans hP) hA1 (fun i j hi hij hj => ?_)
    rw [sw_len] at hj
    rw [sw_at haL hl1 (by omega), sw_at haL hl1 hj]
    by_cases h1 : i = a
    · subst h1
      rw [if_pos rfl, if_neg (by omega)]
      by_cases h2 : j = l
      · subst h2
        rw [if_pos rfl]
        have h3 := hl3 i (Nat.le_refl _) haL
        have h4 := nodup_ne hNL haL hl1 (by omega)
        omega
      · rw [if_neg h2]
        have h3 := hl3 j (by omega) hj
        have h4 := nodup_ne hNL hl1 hj (fun e => h2 e.symm)
        omega
    · have hia : i < a := by omega
      rw [if_neg h1, if_neg (by omega)]
      by_cases h2 : j = a
      · rw [if_pos h2]
        exact hS i l hia (by omega) hl1
      · rw [if_neg h2]
        by_cases h3 : j = l
        · rw [if_pos h3]
          exact hS i a hia hia haL
        · rw [if_neg h3]
          exact hS i j hia hij hj
theorem r_sorts {z mv hd : Nat → Int32} {n : Nat} {B : List Nat} (hn : n ≤ 6) (hz : z 0 = nI n) (hl : B.length ≤ 120) (hN : B.Nodup) (hM : ∀ x ∈ B, Mv n x) (hA : MA mv hd n B) : ∃ mv' hd', MA mv' hd' n (srt B) ∧ f_X10_sorts z (nI B.length) mv hd = some (mv', hd') := by
  unfold f_X10_sorts
  exact r_sorts_L hn hz hl hN hM (fun _ z_moves_1 z_hands_1 => some (z_moves_1, z_hands_1)) B.length 0 q_fu B mv hd (by omega) (fu_lt (by omega)) (List.Perm.refl _) hA (fun i j hi => by omega)
theorem r_start_L {l1 : Int32} (K : Int32 → (Nat → Int32) → Option (Int32 × Int32 × (Nat → Int32) × (Nat → Int32))) : ∀ d i fu mv, i + d = 6 → d < fu → (∀ p, p < i → mv p = nI p) → ∃ mv', (∀ p, p < 6 → mv' p = nI p) ∧ f_X10_moves_L2 l1 K fu (nI i) mv = K (nI 6) mv'
  | d, i, 0, _, _, h, _ => by omega
  | 0, i, fu + 1, mv, hi, _, h => by
    rw [f_X10_moves_L2, li_6, if_pos (nI_le (by omega) (by omega)), show i = 6 by omega]
    exact ⟨mv, fun p hp => h p (by omega), rfl⟩
  | d + 1, i, fu + 1, mv, hi, hfu, h => by
    rw [f_X10_moves_L2, li_6, if_neg (nI_ge (by omega) (by omega)), qe_wt _ _ (by omega) (by decide), ob_some, nI_1]
    refine r_start_L K d (i + 1) fu _ (by omega) (by omega) (fun p hp => ?_)
    rcases Nat.lt_succ_iff_lt_or_eq.mp hp with hp | rfl
    · rw [upd_ne _ (by omega)]; exact h p hp
    · rw [upd_at]
theorem MA_one {mv hd : Nat → Int32} {n : Nat} (hn : n ≤ 6) (h : ∀ p, p < 6 → mv p = nI p) (h0 : hd 0 = 0) : MA mv hd n [one n] := by
  intro j hj
  have : j = 0 := by simpa using hj
  subst this
  refine ⟨fun p hp => ?_, ?_⟩
  · rw [show 6 * 0 + p = p by omega, h p (by omega)]
    show nI p = nI (dg (one n / 2) p)
    rw [one_div, idr_dg hn hp]
  · show hd 0 = nI (one n % 2)
    rw [one_mod, h0]
    rfl
/-- the reference finds the moves of a set of generators -/
theorem r_moves {z mv hd : Nat → Int32} {mm : Int32} {n m set : Nat} {gk : Nat → Nat} (hn : n ≤ 6) (hm : m ≤ 4) (hZ : ZG z n m gk) (hset : set < 2 ^ 31) (hg : ∀ i, i < m → set.testBit i = true → Mv n (gk i)) :
    (∀ B, gen n (sel set gk m 0) = some B → ∃ mv' hd', MA mv' hd' n (srt B) ∧ f_X10_moves (nI set) z mm mv hd = some (1, nI B.length, mv', hd')) ∧
    (gen n (sel set gk m 0) = none → ∃ mm' mv' hd', f_X10_moves (nI set) z mm mv hd = some (0, mm', mv', hd')) := by
  unfold f_X10_moves gen
  obtain ⟨mv0, hp, e⟩ := r_start_L (l1 := nI set) (fun _ z_moves_1 => (q_wt hd 121 0 0).bind fun t2 => f_X10_moves_L35 (nI set) z (fun _ z_moveMany_3 z_moves_3 z_hands_3 => (f_X10_sorts z z_moveMany_3 z_moves_3 z_hands_3).bind fun t4 => some (1, z_moveMany_3, t4.1, t4.2)) q_fu 0 1 z_moves_1 t2) 6 0 q_fu mv (by omega) (fu_lt (by omega)) (fun p hp => by omega)
  rw [show (0 : Int32) = nI 0 from rfl] at e ⊢
  rw [e, qe_wt _ _ (by omega) (by decide), ob_some]
  have hA0 : MA mv0 (upd hd 0 (nI 0)) n [one n] := MA_one hn hp (upd_at _ _ _)
  obtain ⟨h1, h2⟩ := r_movesL hn hm hZ hset hg (fun _ z_moveMany_3 z_moves_3 z_hands_3 => (f_X10_sorts z z_moveMany_3 z_moves_3 z_hands_3).bind fun t4 => some (1, z_moveMany_3, t4.1, t4.2)) 6000 0 [one n] mv0 _ (by omega) (by simp) (Fnd.start _) hA0
  have hM : ∀ g ∈ sel set gk m 0, Mv n g := fun g hgs => by
    obtain ⟨j, -, h2, h3, rfl⟩ := sel_of _ _ _ hgs
    exact hg j (by omega) h3
  refine ⟨fun B hB => ?_, fun h => h2 h⟩
  obtain ⟨l, mv1, hd1, hA1, e1⟩ := h1 B hB
  have hF := (gen_spec hB).1
  obtain ⟨mv2, hd2, hA2, e2⟩ := r_sorts (z := z) hn hZ.1 hF.2.2.2 hF.1 (fun x hx => Rch_Mv hn hM (hF.2.1 x hx)) hA1
  refine ⟨mv2, hd2, hA2, ?_⟩
  refine Eq.trans e1 ?_
  show (f_X10_sorts z (nI B.length) mv1 hd1).bind _ = _
  rw [e2, ob_some]
/-- bits beyond the generators don't count -/
theorem sel_cut {set : Nat} {gk : Nat → Nat} : ∀ d e i, (∀ j, i + d ≤ j → set.testBit j = false) → sel set gk (d + e) i = sel set gk d i
  | 0, 0, _, _ => rfl
  | 0, e + 1, i, h => by
    rw [Nat.zero_add, sel, sel, if_neg (by rw [h i (by omega)]; decide)]
    have := sel_cut (gk := gk) 0 e (i + 1) (fun j hj => h j (by omega))
    rw [Nat.zero_add] at this
    exact this
  | d + 1, e, i, h => by
    rw [show d + 1 + e = (d + e) + 1 by omega, sel, sel, sel_cut d e (i + 1) (fun j hj => h j (by omega))]
theorem sel_4 {set m : Nat} {gk : Nat → Nat} (hm : m ≤ 4) (hs : set < 2 ^ m) : sel set gk 4 0 = sel set gk m 0 := by
  have := sel_cut (set := set) (gk := gk) m (4 - m) 0 (fun j hj => Nat.testBit_lt_two_pow (Nat.lt_of_lt_of_le hs (Nat.pow_le_pow_right (by decide) (by omega))))
  rwa [show m + (4 - m) = 4 by omega] at this
