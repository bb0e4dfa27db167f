-- ===== the reference's moves =====
/-- the generators in the reference's row -/
def ZG (z : Nat → Int32) (n m : Nat) (gk : Nat → Nat) : Prop := z 0 = nI n ∧ z 2 = nI m ∧ ∀ g, g < m → (∀ p, p < n → z (9 + 6 * g + p) = nI (dg (gk g / 2) p)) ∧ z (33 + g) = nI (gk g % 2)
/-- moves in the reference's cells -/
def MA (mv hd : Nat → Int32) (n : Nat) (L : List Nat) : Prop := ∀ j, j < L.length → (∀ p, p < n → mv (6 * j + p) = nI (dg (L.getD j 0 / 2) p)) ∧ hd j = nI (L.getD j 0 % 2)
theorem r_digit {mv : Nat → Int32} {j p : Nat} (h : 6 * j + p < 726) : f_X10_digit (nI j) (nI p) mv = some (mv (6 * j + p)) := by
  unfold f_X10_digit
  rw [li_6, nI_mul, nI_add, qe_rd _ h (by decide), ob_some]
def num (n K : Nat) : Nat := cb 10 (fun p => dg (K / 2) p + 1) n
theorem r_numberOf_L {z mv : Nat → Int32} {n j K : Nat} (hn : n ≤ 6) (hz : z 0 = nI n) (hj : j < 121) (h : ∀ p, p < n → mv (6 * j + p) = nI (dg (K / 2) p)) (KK : Int32 → Int32 → Option Int32) : ∀ d i fu, i + d = n → d < fu → f_X10_numberOf_L4 (nI j) z mv KK fu (nI (cb 10 (fun p => dg (K / 2) p + 1) i)) (nI i) = KK (nI (num n K)) (nI n)
  | d, i, 0, _, h => by omega
  | 0, i, fu + 1, hi, _ => by
    rw [f_X10_numberOf_L4, show (0 : Int32) = nI 0 from rfl, qe_rd _ (by omega) (by decide), ob_some, hz, if_pos (nI_le (by omega) (by omega)), show i = n by omega, num]
  | d + 1, i, fu + 1, hi, hfu => by
    rw [f_X10_numberOf_L4, show (0 : Int32) = nI 0 from rfl, qe_rd _ (by omega) (by decide), ob_some, hz, if_neg (nI_ge (by omega) (by omega)), r_digit (by omega), ob_some, h i (by omega), li_10, nI_mul, nI_add, nI_1, nI_1, Nat.mul_comm 10]
    exact r_numberOf_L hn hz hj h KK d (i + 1) fu (by omega) (by omega)
theorem r_numberOf {z mv : Nat → Int32} {n j K : Nat} (hn : n ≤ 6) (hz : z 0 = nI n) (hj : j < 121) (h : ∀ p, p < n → mv (6 * j + p) = nI (dg (K / 2) p)) : f_X10_numberOf (nI j) z mv = some (nI (num n K)) := by
  unfold f_X10_numberOf
  exact r_numberOf_L hn hz hj h (fun a _ => some a) n 0 q_fu (by omega) (fu_lt (by omega))
theorem num_ord {n K J : Nat} (hn : n ≤ 6) (hK : Mv n K) (hJ : Mv n J) : num n K < num n J ↔ K / 2 < J / 2 := by
  rw [num, num, cb_inc (f := dg (K / 2)), cb_inc (f := dg (J / 2)), Pt_ord (b := 10) hn (by omega) (by omega) hK.1 hJ.1]
  omega
theorem num_eq {n K J : Nat} (hn : n ≤ 6) (hK : Mv n K) (hJ : Mv n J) : num n K = num n J ↔ K / 2 = J / 2 := by
  have h1 := num_ord hn hK hJ
  have h2 := num_ord hn hJ hK
  omega
theorem num_lt {n K : Nat} (hn : n ≤ 6) : num n K < 1000000 := by
  have h := cb_pow (b := 10) (n := n) (f := fun p => dg (K / 2) p + 1) (fun p _ => by have := dg_lt (K / 2) p; omega)
  have h2 : 10 ^ n ≤ 10 ^ 6 := Nat.pow_le_pow_right (by decide) hn
  have h3 : (10 : Nat) ^ 6 = 1000000 := by decide
  unfold num
  omega
theorem r_areAlike {z mv hd : Nat → Int32} {n a b : Nat} {L : List Nat} (hn : n ≤ 6) (hz : z 0 = nI n) (hl : L.length ≤ 121) (hM : ∀ x ∈ L, Mv n x) (hA : MA mv hd n L) (ha : a < L.length) (hb : b < L.length) : f_X10_areAlike (nI a) (nI b) z mv hd = some (if L.getD a 0 = L.getD b 0 then 1 else 0) := by
  have hKa := hM _ (getD_mem ha)
  have hKb := hM _ (getD_mem hb)
  have l1 := num_lt (n := n) (K := L.getD a 0) hn
  have l2 := num_lt (n := n) (K := L.getD b 0) hn
  unfold f_X10_areAlike
  rw [r_numberOf hn hz (by omega) (hA a ha).1, ob_some, r_numberOf hn hz (by omega) (hA b hb).1, ob_some]
  by_cases h : L.getD a 0 / 2 = L.getD b 0 / 2
  · rw [if_pos (by rw [(num_eq hn hKa hKb).mpr h]), qe_rd _ (by omega) (by decide), ob_some, qe_rd _ (by omega) (by decide), ob_some, (hA a ha).2, (hA b hb).2]
    by_cases h2 : L.getD a 0 % 2 = L.getD b 0 % 2
    · rw [if_pos (by rw [h2]), if_pos (key_ext h h2)]
    · rw [if_neg (fun e => h2 (nI_inj (by omega) (by omega) e)), if_neg (fun e => h2 (by rw [e]))]
  · rw [if_neg (fun e => h ((num_eq hn hKa hKb).mp (nI_inj (by omega) (by omega) e))), if_neg (fun e => h (by rw [e]))]
theorem getD_snoc {B : List Nat} {y : Nat} : (B ++ [y]).getD B.length 0 = y := by
  rw [List.getD_eq_getElem?_getD, List.getElem?_append_right (Nat.le_refl _), Nat.sub_self]
  rfl
theorem r_isKnown_L {z mv hd : Nat → Int32} {n y : Nat} {B : List Nat} (hn : n ≤ 6) (hz : z 0 = nI n) (hl : B.length ≤ 120) (hM : ∀ x ∈ B ++ [y], Mv n x) (hA : MA mv hd n (B ++ [y])) : ∀ d i fu, i + d = B.length → d < fu → f_X10_isKnown_L2 (nI B.length) z mv hd (fun _ => some 0) fu (nI i) = some (if y ∈ B.drop i then 1 else 0)
  | d, i, 0, _, h => by omega
  | 0, i, fu + 1, hi, _ => by
    rw [f_X10_isKnown_L2, if_pos (nI_le (by omega) (by omega)), List.drop_eq_nil_of_le (by omega), if_neg (by simp)]
  | d + 1, i, fu + 1, hi, hfu => by
    have hL : (B ++ [y]).length = B.length + 1 := by rw [List.length_append, List.length_singleton]
    rw [f_X10_isKnown_L2, if_neg (nI_ge (by omega) (by omega)), r_areAlike hn hz (by omega) hM hA (by omega) (by omega), ob_some, getD_snoc, getD_app (show i < B.length by omega), drop_cons (show i < B.length by omega), nI_1]
    by_cases h : B.getD i 0 = y
    · rw [if_pos h, if_neg (show ¬ (1 : Int32) = 0 by decide), if_pos (by rw [h]; exact List.mem_cons_self)]
    · rw [if_neg h, if_pos rfl, r_isKnown_L hn hz hl hM hA d (i + 1) fu (by omega) (by omega)]
      congr 1
      refine if_iff ?_
      rw [List.mem_cons]
      exact ⟨Or.inr, fun q => q.resolve_left (fun e => h e.symm)⟩
theorem r_isKnown {z mv hd : Nat → Int32} {n y : Nat} {B : List Nat} (hn : n ≤ 6) (hz : z 0 = nI n) (hl : B.length ≤ 120) (hM : ∀ x ∈ B ++ [y], Mv n x) (hA : MA mv hd n (B ++ [y])) : f_X10_isKnown (nI B.length) z mv hd = some (if y ∈ B then 1 else 0) := by
  unfold f_X10_isKnown
  have h := r_isKnown_L hn hz hl hM hA B.length 0 q_fu (by omega) (fu_lt (by omega))
  rw [List.drop_zero] at h
  exact h
/-- one more move is written behind the others -/
theorem r_behind_L {z : Nat → Int32} {n m k g : Nat} {gk : Nat → Nat} {B : List Nat} (hn : n ≤ 6) (hZ : ZG z n m gk) (hg : g < m) (hm : m ≤ 4) (hl : B.length ≤ 120) (hk : k < B.length) (hx : Mv n (B.getD k 0)) (hgM : Mv n (gk g)) (K : Int32 → (Nat → Int32) → Option ((Nat → Int32) × (Nat → Int32))) :
    ∀ d i fu mv, i + d = n → d < fu → (∀ j, j < B.length → ∀ p, p < n → mv (6 * j + p) = nI (dg (B.getD j 0 / 2) p)) → (∀ p, p < i → mv (6 * B.length + p) = nI (dg (mu n (B.getD k 0) (gk g) / 2) p)) → ∃ mv', f_X10_goesBehind_L2 (nI k) (nI g) z (nI B.length) K fu (nI i) mv = K (nI n) mv' ∧ (∀ j, j < B.length → ∀ p, p < n → mv' (6 * j + p) = nI (dg (B.getD j 0 / 2) p)) ∧ (∀ p, p < n → mv' (6 * B.length + p) = nI (dg (mu n (B.getD k 0) (gk g) / 2) p))
  | d, i, 0, _, _, h, _, _ => by omega
  | 0, i, fu + 1, mv, hi, _, h1, h2 => by
    rw [f_X10_goesBehind_L2, show (0 : Int32) = nI 0 from rfl, qe_rd _ (by omega) (by decide), ob_some, hZ.1, if_pos (nI_le (by omega) (by omega)), show i = n by omega]
    exact ⟨mv, rfl, h1, fun p hp => h2 p (by omega)⟩
  | d + 1, i, fu + 1, mv, hi, hfu, h1, h2 => by
    have hin : i < n := by omega
    have hdg := Mv_dg hgM hin
    have e1 := (hZ.2.2 g hg).1 i hin
    have e2 := h1 k hk (dg (gk g / 2) i) hdg
    rw [f_X10_goesBehind_L2, show (0 : Int32) = nI 0 from rfl, qe_rd _ (by omega) (by decide), ob_some, hZ.1, if_neg (nI_ge (by omega) (by omega)), li_6, show (9 : Int32) = nI 9 from rfl, nI_mul, nI_add, nI_add, qe_rd _ (by omega) (by decide), ob_some, e1, r_digit (by omega), ob_some, nI_mul, nI_add, qe_wt _ _ (by omega) (by decide), ob_some, nI_1, e2]
    refine r_behind_L hn hZ hg hm hl hk hx hgM K d (i + 1) fu _ (by omega) (by omega) (fun j hj p hp => ?_) (fun p hp => ?_)
    · rw [upd_ne _ (by omega)]
      exact h1 j hj p hp
    · rcases Nat.lt_succ_iff_lt_or_eq.mp hp with hp | rfl
      · rw [upd_ne _ (by omega)]
        exact h2 p hp
      · rw [upd_at, mu_div, ac_dg hn hin]
theorem r_behind {z mv hd : Nat → Int32} {n m k g : Nat} {gk : Nat → Nat} {B : List Nat} (hn : n ≤ 6) (hZ : ZG z n m gk) (hg : g < m) (hm : m ≤ 4) (hl : B.length ≤ 120) (hk : k < B.length) (hx : Mv n (B.getD k 0)) (hgM : Mv n (gk g)) (hA : MA mv hd n B) : ∃ mv' hd', f_X10_goesBehind (nI k) (nI g) z (nI B.length) mv hd = some (mv', hd') ∧ MA mv' hd' n (B ++ [mu n (B.getD k 0) (gk g)]) := by
  unfold f_X10_goesBehind
  obtain ⟨mv', e, h1, h2⟩ := r_behind_L hn hZ hg hm hl hk hx hgM (fun _ z_moves_1 => (q_rd hd 121 (nI k)).bind fun t2 => (q_rd z 82 (33 + nI g)).bind fun t3 => (q_wt hd 121 (nI B.length) (t2 ^^^ t3)).bind fun t4 => some (z_moves_1, t4)) n 0 q_fu mv (by omega) (fu_lt (by omega)) (fun j hj => (hA j hj).1) (fun p hp => by omega)
  rw [show (0 : Int32) = nI 0 from rfl, e, qe_rd _ (by omega) (by decide), ob_some, li_33, nI_add, qe_rd _ (by omega) (by decide), ob_some, (hA k hk).2, (hZ.2.2 g hg).2, nI_xor, qe_wt _ _ (by omega) (by decide), ob_some]
  refine ⟨_, _, rfl, fun j hj => ?_⟩
  rw [List.length_append, List.length_singleton] at hj
  rcases Nat.lt_succ_iff_lt_or_eq.mp hj with hj | rfl
  · rw [getD_app hj, upd_ne _ (by omega)]
    exact ⟨h1 j hj, (hA j hj).2⟩
  · rw [getD_snoc, upd_at]
    refine ⟨h2, ?_⟩
    have e3 := xor_2 (B.getD k 0 % 2) (gk g % 2)
    have e4 : ((B.getD k 0 % 2) ^^^ (gk g % 2)) < 2 := Nat.xor_lt_two_pow (n := 1) (by omega) (by omega)
    have e5 := mu_mod n (B.getD k 0) (gk g)
    congr 1
    omega
theorem MA_pre {mv hd : Nat → Int32} {n y : Nat} {B : List Nat} (h : MA mv hd n (B ++ [y])) : MA mv hd n B := by
  intro j hj
  have := h j (by rw [List.length_append]; omega)
  rwa [getD_app hj] at this
theorem r_has {s i : Nat} (hs : s < 2 ^ 31) (hi : i < 32) : f_X10_has (nI s) (nI i) = some (if s.testBit i then 1 else 0) := by
  unfold f_X10_has
  rw [e_tb hs hi]
  by_cases h : s.testBit i = true
  · rw [if_pos h, if_pos rfl]
  · rw [if_neg h, if_neg (by decide)]
theorem r_moves1 {z : Nat → Int32} {n m set l2 x : Nat} {gk : Nat → Nat} {hs : List Nat} (hn : n ≤ 6) (hm : m ≤ 4) (hZ : ZG z n m gk) (hset : set < 2 ^ 31) (hg : ∀ i, i < m → set.testBit i = true → Mv n (gk i) ∧ gk i ∈ hs) (hhs : ∀ g ∈ hs, Mv n g) (hx : Mv n x) (hR : Rch n hs x)
    (K : Int32 → Int32 → (Nat → Int32) → (Nat → Int32) → Option (Int32 × Int32 × (Nat → Int32) × (Nat → Int32))) :
    ∀ d i fu B mv hd, i + d = m → d < fu → Fnd n hs B → MA mv hd n B → l2 < B.length → B.getD l2 0 = x →
      (∀ C, gen1 n x (sel set gk d i) B = some C → ∃ mv' hd', MA mv' hd' n C ∧ f_X10_moves_L45 (nI set) (nI l2) z K fu (nI i) (nI B.length) mv hd = K (nI m) (nI C.length) mv' hd') ∧
      (gen1 n x (sel set gk d i) B = none → ∃ mm mv' hd', f_X10_moves_L45 (nI set) (nI l2) z K fu (nI i) (nI B.length) mv hd = some (0, mm, mv', hd'))
  | d, i, 0, _, _, _, _, h, _, _, _, _ => by omega
  | 0, i, fu + 1, B, mv, hd, hi, hfu, hF, hA, hl, hBx => by
    rw [f_X10_moves_L45, li_2, qe_rd _ (by omega) (by decide), ob_some, hZ.2.1, if_pos (nI_le (by omega) (by omega)), show i = m by omega]
    refine ⟨fun C hC => ?_, fun h => by cases h⟩
    cases hC
    exact ⟨mv, hd, hA, rfl⟩
  | d + 1, i, fu + 1, B, mv, hd, hi, hfu, hF, hA, hl, hBx => by
    have hlen := hF.2.2.2
    rw [f_X10_moves_L45, li_2, qe_rd _ (by omega) (by decide), ob_some, hZ.2.1, if_neg (nI_ge (by omega) (by omega)), r_has hset (by omega), ob_some, sel]
    by_cases hb : set.testBit i = true
    · obtain ⟨e2, e3⟩ := hg i (by omega) hb
      rw [if_pos hb, if_pos hb, if_neg (show ¬ (1 : Int32) = 0 by decide)]
      obtain ⟨mv1, hd1, e4, hA1⟩ := r_behind hn hZ (show i < m by omega) hm hlen hl (by rw [hBx]; exact hx) e2 hA
      rw [hBx] at hA1
      have hy := Rch_step hR e3
      have hMy : ∀ z ∈ B ++ [mu n x (gk i)], Mv n z := fun z hz => by
        rcases List.mem_append.mp hz with hz | hz
        · exact Rch_Mv hn hhs (hF.2.1 z hz)
        · rw [List.mem_singleton] at hz
          rw [hz]; exact Mv.mu hn hx e2
      rw [e4, ob_some, r_isKnown hn hZ.1 hlen hMy hA1, ob_some, nI_1, gen1]
      by_cases hk : mu n x (gk i) ∈ B
      · have hadm : adm B (mu n x (gk i)) = some B := by unfold adm; rw [if_pos hk]
        rw [if_pos hk, if_neg (show ¬ (1 : Int32) = 0 by decide), hadm, ob_some]
        exact r_moves1 hn hm hZ hset hg hhs hx hR K d (i + 1) fu B mv1 hd1 (by omega) (by omega) hF (MA_pre hA1) hl hBx
      · rw [if_neg hk, if_pos rfl]
        by_cases hf : B.length = 120
        · have hadm : adm B (mu n x (gk i)) = none := by unfold adm; rw [if_neg hk, if_pos hf]
          rw [hadm, if_pos (by rw [hf]; rfl)]
          exact ⟨fun C hC => (by cases hC), fun _ => ⟨_, _, _, rfl⟩⟩
        · have hadm : adm B (mu n x (gk i)) = some (B ++ [mu n x (gk i)]) := by unfold adm; rw [if_neg hk, if_neg hf]
          have e6 : B.length + 1 = (B ++ [mu n x (gk i)]).length := by rw [List.length_append, List.length_singleton]
          rw [hadm, ob_some, if_neg (show ¬ nI B.length = 120 from fun e => hf (nI_inj (a := B.length) (b := 120) (by omega) (by omega) e)), nI_1, e6]
          exact r_moves1 hn hm hZ hset hg hhs hx hR K d (i + 1) fu _ mv1 hd1 (by omega) (by omega) (adm_Fnd hF hy hadm) hA1 (by omega) (by rw [getD_app hl]; exact hBx)
    · rw [if_neg hb, if_neg hb, if_pos rfl, nI_1]
      exact r_moves1 hn hm hZ hset hg hhs hx hR K d (i + 1) fu B mv hd (by omega) (by omega) hF hA hl hBx
theorem r_movesL {z : Nat → Int32} {n m set : Nat} {gk : Nat → Nat} (hn : n ≤ 6) (hm : m ≤ 4) (hZ : ZG z n m gk) (hset : set < 2 ^ 31) (hg : ∀ i, i < m → set.testBit i = true → Mv n (gk i))
    (K : Int32 → Int32 → (Nat → Int32) → (Nat → Int32) → Option (Int32 × Int32 × (Nat → Int32) × (Nat → Int32))) :
    ∀ fu k B mv hd, 120 < fu + k → k ≤ B.length → Fnd n (sel set gk m 0) B → MA mv hd n B →
      (∀ C, genL n (sel set gk m 0) fu k B = some C → ∃ l mv' hd', MA mv' hd' n C ∧ f_X10_moves_L35 (nI set) z K fu (nI k) (nI B.length) mv hd = K l (nI C.length) mv' hd') ∧
      (genL n (sel set gk m 0) fu k B = none → ∃ mm mv' hd', f_X10_moves_L35 (nI set) z K fu (nI k) (nI B.length) mv hd = some (0, mm, mv', hd'))
  | 0, k, B, _, _, hfu, hk, hF, _ => by have := hF.2.2.2; omega
  | fu + 1, k, B, mv, hd, hfu, hk, hF, hA => by
    have hlen := hF.2.2.2
    have hM : ∀ g ∈ sel set gk m 0, Mv n g := fun g hgs => by
      obtain ⟨j, -, h2, h3, rfl⟩ := sel_of _ _ _ hgs
      exact hg j (by omega) h3
    rw [f_X10_moves_L35, genL]
    by_cases hkl : k < B.length
    · rw [if_neg (nI_ge hkl (by omega)), if_pos hkl]
      have hxR := hF.2.1 _ (getD_mem hkl)
      obtain ⟨h1, h2⟩ := r_moves1 (x := B.getD k 0) (l2 := k) (hs := sel set gk m 0) hn hm hZ hset (fun i hi hb => ⟨hg i hi hb, sel_mem m 0 i (Nat.zero_le _) (by omega) hb⟩) hM (Rch_Mv hn hM hxR) hxR (fun _ z_moveMany_2 z_moves_2 z_hands_2 => f_X10_moves_L35 (nI set) z K fu (nI k + 1) z_moveMany_2 z_moves_2 z_hands_2) m 0 q_fu B mv hd (by omega) (fu_lt (by omega)) hF hA hkl rfl
      cases hgen : gen1 n (B.getD k 0) (sel set gk m 0) B with
      | none =>
        obtain ⟨mm, mv', hd', e⟩ := h2 hgen
        exact ⟨fun C hC => (by cases hC), fun _ => ⟨mm, mv', hd', e⟩⟩
      | some B1 =>
        obtain ⟨mv', hd', hA1, e⟩ := h1 B1 hgen
        obtain ⟨hF1, ⟨D, hD⟩, -⟩ := gen1_Fnd (fun g hg => hg) hxR hF hgen
        have ih := r_movesL hn hm hZ hset hg K fu (k + 1) B1 mv' hd' (by omega) (by rw [hD, List.length_append]; omega) hF1 hA1
        rw [show (some B1).bind (genL n (sel set gk m 0) fu (k + 1)) = genL n (sel set gk m 0) fu (k + 1) B1 from rfl]
        rw [show f_X10_moves_L45 (nI set) (nI k) z (fun _ z_moveMany_2 z_moves_2 z_hands_2 => f_X10_moves_L35 (nI set) z K fu (nI k + 1) z_moveMany_2 z_moves_2 z_hands_2) q_fu 0 (nI B.length) mv hd = f_X10_moves_L35 (nI set) z K fu (nI (k + 1)) (nI B1.length) mv' hd' from by rw [← nI_1]; exact e]
        exact ih
    · rw [if_pos (nI_le (by omega) (by omega)), if_neg hkl]
      refine ⟨fun C hC => ?_, fun h => by cases h⟩
      cases hC
      exact ⟨_, _, _, hA, rfl⟩
