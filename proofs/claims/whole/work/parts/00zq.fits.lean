-- ===== the steps: fits =====
def allb (f : Nat → Bool) : Nat → Nat → Bool
  | 0, _ => true
  | d + 1, i => f i && allb f d (i + 1)
theorem allb_and (f g : Nat → Bool) : ∀ d i, allb (fun j => f j && g j) d i = (allb f d i && allb g d i)
  | 0, _ => rfl
  | d + 1, i => by
    rw [allb, allb, allb, allb_and f g d (i + 1)]
    cases f i <;> cases g i <;> cases allb f d (i + 1) <;> rfl
def cnf (f : Nat → Bool) : Nat → Nat → Nat
  | 0, _ => 0
  | d + 1, i => (if f i = true then 1 else 0) + cnf f d (i + 1)
def mif (f : Nat → Bool) : Nat → Nat → Int32
  | 0, _ => -5
  | d + 1, i => if f i = true then nI i else mif f d (i + 1)
theorem cnf_le (f : Nat → Bool) : ∀ d i, cnf f d i ≤ d
  | 0, _ => Nat.le_refl _
  | d + 1, i => by
    have := cnf_le f d (i + 1)
    rw [cnf]
    split <;> omega
/-- a seen row counts: as many places, kinds of the frame -/
def ctb (n k : Nat) (s1 s2 sp : Int32) : Bool := decide (sp = nI n) && (decide (∀ p, p < n → dg s1.toNatClampNeg p < k) && decide (∀ p, p < n → dg s2.toNatClampNeg p < k))
/-- a seen row is so with the moves B -/
def dso (n : Nat) (B : List Nat) (s1 s2 si : Int32) : Bool := decide (lst n s1.toNatClampNeg (BY 1 B) = lst n s2.toNatClampNeg (BY 1 B)) == decide (si = 1)
theorem e_ofKinds_L {P n k : Nat} (hP : P < 2 ^ 31) (hn : n ≤ 6) (hk : k < 2 ^ 31) : ∀ d i fu, i + d = n → d < fu → f_X2_isOfKinds_L2 (nI P) (nI n) (nI k) (fun _ => some 1) fu (nI i) = some (if ∀ p, p < n → i ≤ p → dg P p < k then 1 else 0)
  | d, i, 0, _, h => by omega
  | 0, i, fu + 1, hi, _ => by
    rw [f_X2_isOfKinds_L2, if_pos (nI_le (by omega) (by omega)), if_pos (fun p h1 h2 => by omega)]
  | d + 1, i, fu + 1, hi, hfu => by
    rw [f_X2_isOfKinds_L2, if_neg (nI_ge (by omega) (by omega)), e_at hP (by omega), ob_some]
    have h8 := dg_lt P i
    by_cases h : dg P i < k
    · rw [if_pos (nI_lt h (by omega)), nI_1, e_ofKinds_L hP hn hk d (i + 1) fu (by omega) (by omega)]
      congr 1
      refine if_iff ⟨fun q p h1 h2 => ?_, fun q p h1 h2 => q p h1 (by omega)⟩
      by_cases e : p = i
      · subst e; exact h
      · exact q p h1 (by omega)
    · rw [if_neg (fun q => h ((nI_ltI (by omega) hk).mp q)), if_neg (fun q => h (q i (by omega) (Nat.le_refl _)))]
theorem e_ofKinds {P n k : Nat} (hP : P < 2 ^ 31) (hn : n ≤ 6) (hk : k < 2 ^ 31) : f_X2_isOfKinds (nI P) (nI n) (nI k) = some (if ∀ p, p < n → dg P p < k then 1 else 0) := by
  unfold f_X2_isOfKinds
  rw [li_0, e_ofKinds_L hP hn hk n 0 q_fu (by omega) (fu_lt (by omega))]
  congr 1
  exact if_iff ⟨fun q p h => q p h (Nat.zero_le _), fun q p h _ => q p h⟩
theorem SR_kind {n k v : Nat} {x s : Int32} (hn : n ≤ 6) (hk : k ≤ 4) (h : DI n 0 4 x v) (hs : s = nI (pcode n v)) : s = nI s.toNatClampNeg ∧ s.toNatClampNeg < 2 ^ 31 ∧ ((∀ p, p < n → dg s.toNatClampNeg p < k) → DI n 0 k x v ∧ s.toNatClampNeg = pcode n v) ∧ ((¬ ∀ p, p < n → dg s.toNatClampNeg p < k) → ¬ ∃ v, DI n 0 k x v) := by
  have hP := pc_Pt hn (Nat.le_refl 4) h
  have h31 := Pt_31 hP
  have e : s.toNatClampNeg = pcode n v := by rw [hs, nI_toNat h31]
  rw [e]
  refine ⟨hs, h31, fun q => ⟨⟨h.1, h.2.1, h.2.2.1, fun p hp => ?_⟩, rfl⟩, fun q => ?_⟩
  · have := q p hp
    rw [pcode_dg hn (Nat.le_refl 4) h.2.2 hp] at this
    omega
  · rintro ⟨w, hw⟩
    have : w = v := nI_inj hw.1 h.1 (hw.2.1.symm.trans h.2.1)
    subst this
    exact q (fun p hp => by
      rw [pcode_dg hn hk hw.2.2 hp]
      have := (hw.2.2.2 p hp).2
      omega)
theorem r_ix_some {z : Nat → Int32} {n k : Nat} (x : Int32) (h1 : 1 ≤ n) (hn : n ≤ 6) (hk : k ≤ 4) (hz : z 0 = nI n) (hz1 : z 1 = nI k) : ∃ w, f_X10_indexOf x z = some w := by
  by_cases hd : ∃ v, DI n 0 k x v
  · obtain ⟨v, hv⟩ := hd
    exact ⟨_, r_indexOf hn hk hz hz1 hv⟩
  · exact ⟨_, r_indexOf_no h1 hn hk hz hz1 hd⟩
theorem r_isSo {z mv hd pa : Nat → Int32} {n k j : Nat} {B : List Nat} {s1 s2 si sp : Int32} (h1n : 1 ≤ n) (hn : n ≤ 6) (hk1 : 1 ≤ k) (hk : k ≤ 4) (hz : z 0 = nI n) (hz1 : z 1 = nI k) (hB : KS B n) (hM : MA mv hd n (srt B)) (hj : j < 5) (hS : SR s1 s2 si sp (z (46 + 4 * j)) (z (46 + 4 * j + 1)) (z (46 + 4 * j + 2)) (z (46 + 4 * j + 3))) : ∃ pa', f_X10_isSo (nI j) z (nI B.length) mv hd pa = some (if (ctb n k s1 s2 sp && dso n B s1 s2 si) = true then 1 else 0, pa') := by
  obtain ⟨n', v1, v2, i, g1, g2, g3, g4, g5, g6, g7, g8, g9, ga, gb⟩ := hS
  have ea : (46 : Int32) + 4 * nI j = nI (46 + 4 * j) := by rw [li_4, li_46, nI_mul, nI_add]
  have eb : ∀ x : Nat, x ≤ 3 → nI (46 + 4 * j) + nI x = nI (46 + 4 * j + x) := fun x _ => nI_add _ _
  have er : ∀ x : Nat, x ≤ 3 → q_rd z 82 (nI (46 + 4 * j + x)) = some (z (46 + 4 * j + x)) := fun x _ => qe_rd _ (by omega) (by decide)
  unfold f_X10_isSo
  rw [ea, show q_rd z 82 (nI (46 + 4 * j)) = some (z (46 + 4 * j)) from qe_rd _ (by omega) (by decide), ob_some, show nI (46 + 4 * j) + 1 = nI (46 + 4 * j + 1) from nI_add _ 1, show nI (46 + 4 * j) + 2 = nI (46 + 4 * j + 2) from nI_add _ 2, show nI (46 + 4 * j) + 3 = nI (46 + 4 * j + 3) from nI_add _ 3, er 1 (by omega), er 2 (by omega), er 3 (by omega), rd0 hz]
  obtain ⟨w1, hw1⟩ := r_ix_some (z (46 + 4 * j)) h1n hn hk hz hz1
  obtain ⟨w2, hw2⟩ := r_ix_some (z (46 + 4 * j + 1)) h1n hn hk hz hz1
  by_cases hp : n' = n
  · subst hp
    obtain ⟨a1, a2, a3, a4⟩ := SR_kind (k := k) hn hk g8 ga
    obtain ⟨b1, b2, b3, b4⟩ := SR_kind (k := k) hn hk g9 gb
    by_cases c1 : ∀ p, p < n' → dg s1.toNatClampNeg p < k
    · obtain ⟨d1, d2⟩ := a3 c1
      rw [r_indexOf hn hk hz hz1 d1, ob_some, ob_some]
      by_cases c2 : ∀ p, p < n' → dg s2.toNatClampNeg p < k
      · obtain ⟨d3, d4⟩ := b3 c2
        have hP := pc_Pt hn hk d1
        have hQ := pc_Pt hn hk d3
        have hSP := lst_Pt hn (show k ≤ 8 by omega) (BY_Gp (b := 1) hB.1) hP
        have hSQ := lst_Pt hn (show k ≤ 8 by omega) (BY_Gp (b := 1) hB.1) hQ
        have i1 := idx_lt hSP
        have i2 := idx_lt hSQ
        have i3 := pow_4096 hn hk
        obtain ⟨pa1, -, e2⟩ := r_leastOf (pa := pa) hn hk1 hk hz hz1 (show (1 : Nat) ≤ 1 by omega) hB hM hP
        obtain ⟨pa2, -, e3⟩ := r_leastOf (pa := pa1) hn hk1 hk hz hz1 (show (1 : Nat) ≤ 1 by omega) hB hM hQ
        refine ⟨pa2, ?_⟩
        have hct : ctb n' k s1 s2 sp = true := by
          unfold ctb
          rw [decide_eq_true g4, decide_eq_true c1, decide_eq_true c2]
          rfl
        rw [r_indexOf hn hk hz hz1 d3, ob_some, ob_some, ob_some, if_pos g5, if_neg (idx_ne hn hk hP), if_neg (idx_ne hn hk hQ), show (1 : Int32) = nI 1 from rfl, e2, ob_some, e3, ob_some, ob_some, hct, Bool.true_and]
        unfold dso
        rw [d2, d4, g7, g6]
        obtain rfl | rfl : i = 0 ∨ i = 1 := by omega
        · rw [show decide (nI 0 = 1) = false from rfl]
          by_cases he : lst n' (pcode n' v1) (BY 1 B) = lst n' (pcode n' v2) (BY 1 B)
          · rw [if_pos (by rw [he]), if_neg (show ¬ nI 0 = nI 1 by decide), decide_eq_true he]
            rfl
          · rw [if_neg (fun q => he (idx_inj hSP hSQ (nI_inj (by omega) (by omega) q))), ob_some, if_neg (show ¬ nI 0 = nI 1 by decide), decide_eq_false he]
            rfl
        · rw [show decide (nI 1 = 1) = true from rfl]
          by_cases he : lst n' (pcode n' v1) (BY 1 B) = lst n' (pcode n' v2) (BY 1 B)
          · rw [if_pos (by rw [he]), if_pos rfl, decide_eq_true he]
            rfl
          · rw [if_neg (fun q => he (idx_inj hSP hSQ (nI_inj (by omega) (by omega) q))), ob_some, if_pos rfl, decide_eq_false he]
            rfl
      · refine ⟨pa, ?_⟩
        have hct : ctb n' k s1 s2 sp = false := by
          unfold ctb
          rw [decide_eq_true g4, decide_eq_true c1, decide_eq_false c2]
          rfl
        rw [r_indexOf_no h1n hn hk hz hz1 (b4 c2), ob_some, ob_some, ob_some, if_pos g5, if_neg (idx_ne hn hk (pc_Pt hn hk d1)), if_pos rfl, hct]
        rfl
    · refine ⟨pa, ?_⟩
      have hct : ctb n' k s1 s2 sp = false := by
        unfold ctb
        rw [decide_eq_true g4, decide_eq_false c1]
        rfl
      rw [r_indexOf_no h1n hn hk hz hz1 (a4 c1), ob_some, ob_some, hw2, ob_some, ob_some, ob_some, if_pos g5, if_pos rfl, hct]
      rfl
  · refine ⟨pa, ?_⟩
    have hne : ¬ nI n' = nI n := fun q => hp (nI_inj (by omega) (by omega) q)
    have hct : ctb n k s1 s2 sp = false := by
      unfold ctb
      rw [g4, decide_eq_false hne]
      rfl
    rw [hw1, ob_some, ob_some, hw2, ob_some, ob_some, ob_some, g5, if_neg hne, hct]
    rfl
theorem r_allSo_L {z mv hd : Nat → Int32} {n k c : Nat} {B : List Nat} {s1 s2 si sp : Nat → Int32} (h1n : 1 ≤ n) (hn : n ≤ 6) (hk1 : 1 ≤ k) (hk : k ≤ 4) (hz : z 0 = nI n) (hz1 : z 1 = nI k) (hz3 : z 3 = nI c) (hc : c ≤ 5) (hB : KS B n) (hM : MA mv hd n (srt B)) (hS : ∀ j, j < c → SR (s1 j) (s2 j) (si j) (sp j) (z (46 + 4 * j)) (z (46 + 4 * j + 1)) (z (46 + 4 * j + 2)) (z (46 + 4 * j + 3))) : ∀ d i fu pa, i + d = c → d < fu → ∃ pa', f_X10_isAllSo_L2 z (nI B.length) mv hd (fun _ p => some (1, p)) fu (nI i) pa = some (if allb (fun j => ctb n k (s1 j) (s2 j) (sp j) && dso n B (s1 j) (s2 j) (si j)) d i = true then 1 else 0, pa')
  | d, i, 0, _, _, h => by omega
  | 0, i, fu + 1, pa, hi, _ => by
    rw [f_X10_isAllSo_L2, show q_rd z 82 3 = some (nI c) from by rw [li_3, qe_rd _ (by decide) (by decide), hz3], ob_some, if_pos (nI_le (by omega) (by omega))]
    exact ⟨pa, rfl⟩
  | d + 1, i, fu + 1, pa, hi, hfu => by
    obtain ⟨pa1, e⟩ := r_isSo (pa := pa) h1n hn hk1 hk hz hz1 hB hM (by omega) (hS i (by omega))
    rw [f_X10_isAllSo_L2, show q_rd z 82 3 = some (nI c) from by rw [li_3, qe_rd _ (by decide) (by decide), hz3], ob_some, if_neg (nI_ge (by omega) (by omega)), e, ob_some, allb]
    by_cases h : (ctb n k (s1 i) (s2 i) (sp i) && dso n B (s1 i) (s2 i) (si i)) = true
    · rw [if_pos h, if_neg (show ¬ (1 : Int32) = 0 by decide), h, Bool.true_and, nI_1]
      exact r_allSo_L h1n hn hk1 hk hz hz1 hz3 hc hB hM hS d (i + 1) fu pa1 (by omega) (by omega)
    · rw [if_neg h, if_pos rfl, Bool.eq_false_iff.mpr h, Bool.false_and]
      exact ⟨pa1, rfl⟩
theorem e_cnt_L {z : Nat → Int32} {n k c : Nat} {s1 s2 si sp : Nat → Int32} (hn : n ≤ 6) (hk : k ≤ 4) (hc : c ≤ 5) (hS : ∀ j, j < c → SR (s1 j) (s2 j) (si j) (sp j) (z (46 + 4 * j)) (z (46 + 4 * j + 1)) (z (46 + 4 * j + 2)) (z (46 + 4 * j + 3))) : ∀ d i fu, i + d = c → d < fu → f_X3_allSeenCount_L2 (nI n) (nI k) (nI c) s1 s2 sp (fun _ => some 1) fu (nI i) = some (if allb (fun j => ctb n k (s1 j) (s2 j) (sp j)) d i = true then 1 else 0)
  | d, i, 0, _, h => by omega
  | 0, i, fu + 1, hi, _ => by
    rw [f_X3_allSeenCount_L2, if_pos (nI_le (by omega) (by omega))]
    rfl
  | d + 1, i, fu + 1, hi, hfu => by
    obtain ⟨n', v1, v2, i0, g1, g2, g3, g4, g5, g6, g7, g8, g9, ga, gb⟩ := hS i (by omega)
    rw [f_X3_allSeenCount_L2, if_neg (nI_ge (by omega) (by omega)), qe_rd _ (by omega) (by decide), ob_some, allb]
    unfold ctb
    by_cases hp : sp i = nI n
    · have : n' = n := nI_inj (by omega) (by omega) (g4.symm.trans hp)
      subst this
      obtain ⟨a1, a2, -, -⟩ := SR_kind (k := k) hn hk g8 ga
      obtain ⟨b1, b2, -, -⟩ := SR_kind (k := k) hn hk g9 gb
      rw [if_pos hp, qe_rd _ (by omega) (by decide), ob_some, a1, e_ofKinds a2 hn (by omega), ob_some, decide_eq_true hp, nI_toNat a2]
      by_cases c1 : ∀ p, p < n' → dg (s1 i).toNatClampNeg p < k
      · rw [if_pos c1, if_neg (show ¬ (1 : Int32) = 0 by decide), qe_rd _ (by omega) (by decide), ob_some, b1, e_ofKinds b2 hn (by omega), ob_some, decide_eq_true c1, nI_toNat b2]
        by_cases c2 : ∀ p, p < n' → dg (s2 i).toNatClampNeg p < k
        · rw [if_pos c2, if_neg (show ¬ (1 : Int32) = 0 by decide), decide_eq_true c2, nI_1]
          exact e_cnt_L hn hk hc hS d (i + 1) fu (by omega) (by omega)
        · rw [if_neg c2, if_pos rfl, decide_eq_false c2]
          rfl
      · rw [if_neg c1, if_pos rfl, decide_eq_false c1]
        rfl
    · rw [if_neg hp, decide_eq_false hp]
      rfl
theorem e_allSo_L {z keys asF : Nat → Int32} {turns : Int32} {n k c : Nat} {B : List Nat} {s1 s2 si sp : Nat → Int32} (hn : n ≤ 6) (hk : k ≤ 4) (hc : c ≤ 5) (hB : KS B n) (hA : AK keys (srt B)) (hS : ∀ j, j < c → SR (s1 j) (s2 j) (si j) (sp j) (z (46 + 4 * j)) (z (46 + 4 * j + 1)) (z (46 + 4 * j + 2)) (z (46 + 4 * j + 3))) : ∀ d i fu, i + d = c → d < fu → allb (fun j => ctb n k (s1 j) (s2 j) (sp j)) d i = true → f_X9_allIsAsSeen_L25 (nI c) s1 s2 si keys asF (nI B.length) turns (nI n) (fun _ => some (1, keys, asF, nI B.length, turns, nI n)) fu (nI i) = some (if allb (fun j => dso n B (s1 j) (s2 j) (si j)) d i = true then 1 else 0, keys, asF, nI B.length, turns, nI n)
  | d, i, 0, _, h, _ => by omega
  | 0, i, fu + 1, hi, _, _ => by
    rw [f_X9_allIsAsSeen_L25, if_pos (nI_le (by omega) (by omega))]
    rfl
  | d + 1, i, fu + 1, hi, hfu, hct => by
    obtain ⟨n', v1, v2, i0, g1, g2, g3, g4, g5, g6, g7, g8, g9, ga, gb⟩ := hS i (by omega)
    rw [allb, Bool.and_eq_true] at hct
    obtain ⟨hct, hrest⟩ := hct
    unfold ctb at hct
    rw [Bool.and_eq_true, Bool.and_eq_true, decide_eq_true_eq, decide_eq_true_eq, decide_eq_true_eq] at hct
    obtain ⟨hp, c1, c2⟩ := hct
    have : n' = n := nI_inj (by omega) (by omega) (g4.symm.trans hp)
    subst this
    obtain ⟨a1, a2, a3, -⟩ := SR_kind (k := k) hn hk g8 ga
    obtain ⟨b1, b2, b3, -⟩ := SR_kind (k := k) hn hk g9 gb
    obtain ⟨d1, d2⟩ := a3 c1
    obtain ⟨d3, d4⟩ := b3 c2
    have hP := pc_Pt hn hk d1
    have hQ := pc_Pt hn hk d3
    have ih := e_allSo_L (z := z) (asF := asF) (turns := turns) (sp := sp) hn hk hc hB hA hS d (i + 1) fu (by omega) (by omega) hrest
    rw [f_X9_allIsAsSeen_L25, if_neg (nI_ge (by omega) (by omega)), qe_rd _ (by omega) (by decide), ob_some, qe_rd _ (by omega) (by decide), ob_some, ga, gb, show (1 : Int32) = nI 1 from rfl, e_makes hn (by omega) hP hQ (show (1 : Nat) ≤ 1 by omega) hB hA, ob_some, qe_rd _ (by omega) (by decide), ob_some, allb, nI_add]
    unfold dso
    rw [d2, d4, g6]
    obtain rfl | rfl : i0 = 0 ∨ i0 = 1 := by omega
    · rw [show decide (nI 0 = 1) = false from rfl, if_neg (show ¬ nI 0 = nI 1 by decide)]
      by_cases he : lst n' (pcode n' v1) (BY 1 B) = lst n' (pcode n' v2) (BY 1 B)
      · rw [if_pos he, if_neg (show ¬ (1 : Int32) = 0 by decide), decide_eq_true he]
        rfl
      · rw [if_neg he, if_pos rfl, decide_eq_false he]
        exact ih
    · rw [show decide (nI 1 = 1) = true from rfl, if_pos rfl]
      by_cases he : lst n' (pcode n' v1) (BY 1 B) = lst n' (pcode n' v2) (BY 1 B)
      · rw [if_pos he, if_pos (show (1 : Int32) = nI 1 from rfl), decide_eq_true he]
        exact ih
      · rw [if_neg he, if_neg (show ¬ (0 : Int32) = nI 1 by decide), decide_eq_false he]
        rfl
