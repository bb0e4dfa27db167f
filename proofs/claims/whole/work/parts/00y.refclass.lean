-- ===== the reference's classes, hands, pairs =====
theorem r_paintings_L {z : Nat → Int32} {n k : Nat} (hn : n ≤ 6) (hz : z 0 = nI n) (hz1 : z 1 = nI k) (K : Int32 → Int32 → Option Int32) : ∀ d i fu, i + d = n → d < fu → f_X10_paintings_L4 z K fu (nI (k ^ i)) (nI i) = K (nI (k ^ n)) (nI n)
  | d, i, 0, _, h => by omega
  | 0, i, fu + 1, hi, _ => by
    rw [f_X10_paintings_L4, rd0 hz, ob_some, if_pos (nI_le (by omega) (by omega)), show i = n by omega]
  | d + 1, i, fu + 1, hi, hfu => by
    rw [f_X10_paintings_L4, rd0 hz, ob_some, if_neg (nI_ge (by omega) (by omega)), rd1 hz1, ob_some, nI_mul, nI_1, ← Nat.pow_succ]
    exact r_paintings_L hn hz hz1 K d (i + 1) fu (by omega) (by omega)
theorem r_paintings {z : Nat → Int32} {n k : Nat} (hn : n ≤ 6) (hz : z 0 = nI n) (hz1 : z 1 = nI k) : f_X10_paintings z = some (nI (k ^ n)) := by
  unfold f_X10_paintings
  exact r_paintings_L hn hz hz1 (fun a _ => some a) n 0 q_fu (by omega) (fu_lt (by omega))
theorem e_paintings_L {n k : Nat} (hn : n ≤ 6) (K : Int32 → Int32 → Option Int32) : ∀ d i fu, i + d = n → d < fu → f_X9_paintings_L4 (nI n) (nI k) K fu (nI (k ^ i)) (nI i) = K (nI (k ^ n)) (nI n)
  | d, i, 0, _, h => by omega
  | 0, i, fu + 1, hi, _ => by
    rw [f_X9_paintings_L4, if_pos (nI_le (by omega) (by omega)), show i = n by omega]
  | d + 1, i, fu + 1, hi, hfu => by
    rw [f_X9_paintings_L4, if_neg (nI_ge (by omega) (by omega)), nI_mul, nI_1, ← Nat.pow_succ]
    exact e_paintings_L hn K d (i + 1) fu (by omega) (by omega)
theorem e_paintings {n k : Nat} (hn : n ≤ 6) : f_X9_paintings (nI n) (nI k) = some (nI (k ^ n)) := by
  unfold f_X9_paintings
  exact e_paintings_L hn (fun a _ => some a) n 0 q_fu (by omega) (fu_lt (by omega))
theorem nar_0 : vp_nar .boolean 0 = 0 := by decide
theorem nar_1 : vp_nar .boolean 1 = 1 := by decide
theorem qe_wz0 (a : Nat → Int32) {n i : Nat} (h : i < n) (hn : n < 2 ^ 31) : q_wz a n (nI i) 0 = some (upd a i 0) := by
  unfold q_wz
  rw [if_neg (nI_in h hn), nI_clamp (by omega), nar_0]
theorem qe_wz1 (a : Nat → Int32) {n i : Nat} (h : i < n) (hn : n < 2 ^ 31) : q_wz a n (nI i) 1 = some (upd a i 1) := by
  unfold q_wz
  rw [if_neg (nI_in h hn), nI_clamp (by omega), nar_1]
theorem r_clear_L {a1 : Int32} {N : Nat} (hN : N ≤ 4096) (K : Int32 → (Nat → Int32) → Option ((Nat → Int32) × (Nat → Int32) × (Nat → Int32) × Int32)) : ∀ d i fu se, i + d = N → d < fu → (∀ x, x < i → se x = 0) → ∃ se', (∀ x, x < N → se' x = 0) ∧ f_X10_classes_L12 a1 (nI N) K fu (nI i) se = K (nI N) se'
  | d, i, 0, _, _, h, _ => by omega
  | 0, i, fu + 1, se, hi, _, h => by
    rw [f_X10_classes_L12, if_pos (nI_le (by omega) (by omega)), show i = N by omega]
    exact ⟨se, fun x hx => h x (by omega), rfl⟩
  | d + 1, i, fu + 1, se, hi, hfu, h => by
    rw [f_X10_classes_L12, if_neg (nI_ge (by omega) (by omega)), qe_wz0 _ (by omega) (by decide), ob_some, nI_1]
    refine r_clear_L hN K d (i + 1) fu _ (by omega) (by omega) (fun x hx => ?_)
    by_cases e : x = i
    · rw [e, upd_at]
    · rw [upd_ne _ e]; exact h x (by omega)
theorem r_mark_L {z mv hd pa : Nat → Int32} {a2 a3 : Int32} {n k b P : Nat} {B : List Nat} (hn : n ≤ 6) (hk : k ≤ 4) (hz : z 0 = nI n) (hz1 : z 1 = nI k) (hb : b ≤ 1) (hB : KS B n) (hM : MA mv hd n (srt B)) (hP : Pt n k P) (hA : PA pa n P) (K : Int32 → (Nat → Int32) → Option ((Nat → Int32) × (Nat → Int32) × (Nat → Int32) × Int32)) :
    ∀ d i fu se, i + d = B.length → d < fu → ∃ se', (∀ x, se' x = if ∃ J ∈ (srt B).drop i, J % 2 ≤ b ∧ idx n k (ac n P (J / 2)) = x then 1 else se x) ∧ f_X10_classes_L77 (nI b) a2 a3 z (nI B.length) mv hd pa K fu (nI i) se = K (nI B.length) se'
  | d, i, 0, _, _, h => by omega
  | 0, i, fu + 1, se, hi, _ => by
    have hl := hB.2
    have hL := srt_len B
    rw [f_X10_classes_L77, if_pos (nI_le (by omega) (by omega)), show i = B.length by omega]
    refine ⟨se, fun x => ?_, rfl⟩
    rw [if_neg]
    rintro ⟨J, hJ, -⟩
    rw [List.drop_eq_nil_of_le (by omega)] at hJ
    cases hJ
  | d + 1, i, fu + 1, se, hi, hfu => by
    have hl := hB.2
    have hL := srt_len B
    have hiL : i < (srt B).length := by omega
    have hK := KS_key hB hiL
    have hMd := ac_PtM hn (show k ≤ 8 by omega) hP hK
    have i2 := idx_lt hMd
    have i3 := pow_4096 hn hk
    have hex : ∀ x, (∃ J ∈ (srt B).getD i 0 :: (srt B).drop (i + 1), J % 2 ≤ b ∧ idx n k (ac n P (J / 2)) = x) ↔ ((srt B).getD i 0 % 2 ≤ b ∧ idx n k (ac n P ((srt B).getD i 0 / 2)) = x) ∨ ∃ J ∈ (srt B).drop (i + 1), J % 2 ≤ b ∧ idx n k (ac n P (J / 2)) = x := fun x => by
      simp only [List.mem_cons, exists_eq_or_imp]
    rw [f_X10_classes_L77, if_neg (nI_ge (by omega) (by omega)), r_counts hb (by omega) hiL hM, ob_some, r_becomes hn hz hz1 hA (by omega) hiL hM hK, ob_some, nI_1, drop_cons hiL]
    by_cases h : (srt B).getD i 0 % 2 ≤ b
    · rw [if_pos h, if_neg (show ¬ (1 : Int32) = 0 by decide), qe_wz1 _ (by omega) (by decide), ob_some]
      obtain ⟨se', h1, e⟩ := r_mark_L (a2 := a2) (a3 := a3) hn hk hz hz1 hb hB hM hP hA K d (i + 1) fu (upd se (idx n k (ac n P ((srt B).getD i 0 / 2))) 1) (by omega) (by omega)
      refine ⟨se', fun x => ?_, e⟩
      rw [h1 x]
      by_cases h2 : ∃ J ∈ (srt B).drop (i + 1), J % 2 ≤ b ∧ idx n k (ac n P (J / 2)) = x
      · rw [if_pos h2, if_pos ((hex x).mpr (Or.inr h2))]
      · rw [if_neg h2]
        by_cases h3 : x = idx n k (ac n P ((srt B).getD i 0 / 2))
        · rw [h3, upd_at, if_pos ((hex _).mpr (Or.inl ⟨h, rfl⟩))]
        · rw [upd_ne _ h3, if_neg]
          rw [hex]
          rintro (q | q)
          · exact h3 q.2.symm
          · exact h2 q
    · rw [if_neg h, if_pos rfl]
      obtain ⟨se', h1, e⟩ := r_mark_L (a2 := a2) (a3 := a3) hn hk hz hz1 hb hB hM hP hA K d (i + 1) fu se (by omega) (by omega)
      refine ⟨se', fun x => ?_, e⟩
      rw [h1 x]
      refine if_iff ?_
      rw [hex]
      exact ⟨Or.inr, fun q => q.resolve_left (fun r => h r.1)⟩
/-- the leasts, by their numbers -/
def AKi (a : Nat → Int32) (n k : Nat) (L : List Nat) : Prop := ∀ j, j < L.length → a j = nI (idx n k (L.getD j 0))
theorem AKi_app {a : Nat → Int32} {n k x : Nat} {L : List Nat} (h : AKi a n k L) : AKi (upd a L.length (nI (idx n k x))) n k (L ++ [x]) := by
  intro j hj
  rw [List.length_append, List.length_singleton] at hj
  by_cases e : j = L.length
  · subst e
    rw [upd_at, getD_snoc]
  · rw [upd_ne _ e, getD_app (by omega)]
    exact h j (by omega)
theorem r_classes_L {z mv hd : Nat → Int32} {n k b : Nat} {B : List Nat} (hn : n ≤ 6) (hk1 : 1 ≤ k) (hk : k ≤ 4) (hz : z 0 = nI n) (hz1 : z 1 = nI k) (hb : b ≤ 1) (hB : KS B n) (hM : MA mv hd n (srt B)) (K : Int32 → (Nat → Int32) → (Nat → Int32) → (Nat → Int32) → Int32 → Option ((Nat → Int32) × (Nat → Int32) × (Nat → Int32) × Int32)) :
    ∀ d i fu pa le se, i + d = k ^ n → d < fu → AKi le n k (LQ n k (BY b B) i) → (∀ x, x < k ^ n → se x = if ∃ j, j < i ∧ lst n (pt n k j) (BY b B) = pt n k j ∧ lst n (pt n k x) (BY b B) = pt n k j then 1 else 0) → ∃ pa' le' se', AKi le' n k (LQ n k (BY b B) (k ^ n)) ∧ f_X10_classes_L32 (nI b) (nI (k ^ n)) z (nI B.length) mv hd K fu (nI i) pa le se (nI (LQ n k (BY b B) i).length) = K (nI (k ^ n)) pa' le' se' (nI (LQ n k (BY b B) (k ^ n)).length)
  | d, i, 0, _, _, _, _, h, _, _ => by omega
  | 0, i, fu + 1, pa, le, se, hi, _, hle, _ => by
    have h4 := pow_4096 hn hk
    have e : i = k ^ n := by omega
    subst e
    rw [f_X10_classes_L32, if_pos (nI_le (Nat.le_refl _) (by omega))]
    exact ⟨pa, le, se, hle, rfl⟩
  | d + 1, i, fu + 1, pa, le, se, hi, hfu, hle, hse => by
    have h4 := pow_4096 hn hk
    have hLl := LQ_len n k (BY b B) i
    have hs := LQ_succ n k (BY b B) i
    have hG := BY_Gp (b := b) hB.1
    have hP := pt_Pt (i := i) hn hk1 (show k ≤ 8 by omega)
    have hpx : ∀ x, Pt n k (pt n k x) := fun x => pt_Pt hn hk1 (by omega)
    have hix : ∀ x, x < k ^ n → idx n k (pt n k x) = x := fun x hx => idx_pt hn hk1 (by omega) hx
    have hleast : (∃ j, j < i ∧ lst n (pt n k j) (BY b B) = pt n k j ∧ lst n (pt n k i) (BY b B) = pt n k j) ↔ ¬ lst n (pt n k i) (BY b B) = pt n k i := by
      constructor
      · rintro ⟨j, hj, -, h2⟩ h3
        rw [h3] at h2
        have := congrArg (idx n k) h2
        rw [hix i (by omega), hix j (by omega)] at this
        omega
      · intro h
        have hQ := lst_Pt hn (show k ≤ 8 by omega) hG hP
        have hlt : lst n (pt n k i) (BY b B) < pt n k i := by
          have := lst_self hn hG hP
          omega
        have hj : idx n k (lst n (pt n k i) (BY b B)) < i := by
          have := (idx_ord hn (show k ≤ 8 by omega) hQ hP).mp hlt
          rwa [hix i (by omega)] at this
        refine ⟨_, hj, ?_, ?_⟩
        · rw [pt_idx hn hk1 (by omega) hQ]
          exact lst_idem hn (by omega) hG hP
        · rw [pt_idx hn hk1 (by omega) hQ]
    rw [f_X10_classes_L32, if_neg (nI_ge (by omega) (by omega)), qe_rd _ (by omega) (by decide), ob_some, hse i (by omega), nI_1]
    by_cases h : lst n (pt n k i) (BY b B) = pt n k i
    · rw [if_neg (fun q => hleast.mp q h), if_pos rfl]
      rw [if_pos h] at hs
      obtain ⟨pa1, hA, e1⟩ := r_paints (pa := pa) (v := i) hn hk1 hk hz hz1 (by omega)
      rw [qe_wt _ _ (by omega) (by decide), ob_some, e1, ob_some]
      obtain ⟨se1, h1, e2⟩ := r_mark_L (a2 := nI (k ^ n)) (a3 := nI i) hn hk hz hz1 hb hB hM hP hA (fun _ z_isSeen_6 => f_X10_classes_L32 (nI b) (nI (k ^ n)) z (nI B.length) mv hd K fu (nI (i + 1)) pa1 (upd le (LQ n k (BY b B) i).length (nI i)) z_isSeen_6 (nI (LQ n k (BY b B) i).length + 1)) B.length 0 q_fu se (by omega) (fu_lt (by have := hB.2; omega))
      have hle1 := AKi_app (x := pt n k i) hle
      rw [hix i (by omega), ← hs] at hle1
      have hlen : (LQ n k (BY b B) i).length + 1 = (LQ n k (BY b B) (i + 1)).length := by rw [hs, List.length_append, List.length_singleton]
      obtain ⟨pa', le', se', q1, q2⟩ := r_classes_L hn hk1 hk hz hz1 hb hB hM K d (i + 1) fu pa1 _ se1 (by omega) (by omega) hle1 (fun x hx => by
        rw [h1 x, hse x hx, List.drop_zero]
        have hx2 : (∃ J ∈ srt B, J % 2 ≤ b ∧ idx n k (ac n (pt n k i) (J / 2)) = x) ↔ lst n (pt n k x) (BY b B) = pt n k i := by
          have h3 := lst_same hn (show k ≤ 8 by omega) hG hP (hpx x)
          rw [h] at h3
          constructor
          · rintro ⟨J, hJ, hJ2, hJ3⟩
            refine (h3.mp ⟨J, (BY_mem hb).mpr ⟨srt_mem.mp hJ, hJ2⟩, ?_⟩).symm
            rw [← hJ3, pt_idx hn hk1 (by omega) (ac_PtM hn (by omega) hP (hB.1.2.1 J (srt_mem.mp hJ)))]
          · intro h5
            obtain ⟨J, hJ, hJ2⟩ := h3.mpr h5.symm
            have hJ3 := (BY_mem hb).mp hJ
            exact ⟨J, srt_mem.mpr hJ3.1, hJ3.2, by rw [hJ2, hix x hx]⟩
        by_cases h6 : lst n (pt n k x) (BY b B) = pt n k i
        · rw [if_pos (hx2.mpr h6), if_pos ⟨i, by omega, h, h6⟩]
        · rw [if_neg (fun q => h6 (hx2.mp q))]
          refine if_iff ⟨fun ⟨j, hj, q⟩ => ⟨j, by omega, q⟩, fun ⟨j, hj, q⟩ => ?_⟩
          rcases Nat.lt_succ_iff_lt_or_eq.mp hj with hj | rfl
          · exact ⟨j, hj, q⟩
          · exact absurd q.2 h6)
      refine ⟨pa', le', se', q1, ?_⟩
      rw [show (0 : Int32) = nI 0 from rfl]
      refine e2.trans ?_
      show f_X10_classes_L32 (nI b) (nI (k ^ n)) z (nI B.length) mv hd K fu (nI (i + 1)) pa1 _ se1 (nI _ + 1) = _
      rw [nI_1, hlen]
      exact q2
    · rw [if_pos (hleast.mpr h), if_neg (show ¬ (1 : Int32) = 0 by decide)]
      rw [if_neg h] at hs
      rw [← hs] at hle ⊢
      refine r_classes_L hn hk1 hk hz hz1 hb hB hM K d (i + 1) fu pa le se (by omega) (by omega) hle (fun x hx => ?_)
      rw [hse x hx]
      refine if_iff ⟨fun ⟨j, hj, q⟩ => ⟨j, by omega, q⟩, fun ⟨j, hj, q⟩ => ?_⟩
      rcases Nat.lt_succ_iff_lt_or_eq.mp hj with hj | rfl
      · exact ⟨j, hj, q⟩
      · exact absurd q.1 h
/-- the reference finds its classes -/
theorem r_classes {z mv hd pa le se : Nat → Int32} {cm : Int32} {n k b : Nat} {B : List Nat} (hn : n ≤ 6) (hk1 : 1 ≤ k) (hk : k ≤ 4) (hz : z 0 = nI n) (hz1 : z 1 = nI k) (hb : b ≤ 1) (hB : KS B n) (hM : MA mv hd n (srt B)) :
    ∃ pa' le' se', AKi le' n k (LQ n k (BY b B) (k ^ n)) ∧ f_X10_classes (nI b) z (nI B.length) mv hd pa le se cm = some (pa', le', se', nI (LQ n k (BY b B) (k ^ n)).length) := by
  have h4 := pow_4096 hn hk
  unfold f_X10_classes
  rw [r_paintings hn hz hz1, ob_some]
  obtain ⟨se0, h0, e0⟩ := r_clear_L (a1 := nI b) h4 (fun _ z_isSeen_2 => f_X10_classes_L32 (nI b) (nI (k ^ n)) z (nI B.length) mv hd (fun _ z_paint_3 z_leasts_3 z_isSeen_3 z_classMany_3 => some (z_paint_3, z_leasts_3, z_isSeen_3, z_classMany_3)) q_fu 0 pa le z_isSeen_2 0) (k ^ n) 0 q_fu se (by omega) (fu_lt (by omega)) (fun x hx => by omega)
  obtain ⟨pa', le', se', h1, e1⟩ := r_classes_L hn hk1 hk hz hz1 hb hB hM (fun _ z_paint_3 z_leasts_3 z_isSeen_3 z_classMany_3 => some (z_paint_3, z_leasts_3, z_isSeen_3, z_classMany_3)) (k ^ n) 0 q_fu pa le se0 (by omega) (fu_lt (by omega)) (fun j hj => by simp [LQ] at hj) (fun x hx => by
    rw [h0 x hx, if_neg]
    rintro ⟨j, hj, -⟩
    omega)
  refine ⟨pa', le', se', h1, ?_⟩
  refine Eq.trans e0 ?_
  exact e1
-- hands
theorem r_mirrors {mv hd : Nat → Int32} {n : Nat} {B : List Nat} (hl : B.length ≤ 120) (hM : MA mv hd n (srt B)) : f_X10_mirrors (nI B.length) hd = some (nI (B.length - (B0 B).length)) := by
  unfold f_X10_mirrors
  have h := r_manyOf (b := 0) (by omega) hl hM
  rw [show f_X10_manyOf 0 (nI B.length) hd = some (nI (B0 B).length) from h, ob_some, nI_sub (show (B0 B).length ≤ B.length from BY_len (b := 0))]
theorem mirrors_pos {B : List Nat} : 0 < B.length - (B0 B).length ↔ ∃ m ∈ B, m % 2 = 1 := by
  have h1 := List.length_eq_countP_add_countP (fun K => decide (K % 2 = 0)) (l := B)
  have h2 : (B0 B).length = B.countP (fun K => decide (K % 2 = 0)) := List.countP_eq_length_filter.symm
  have h3 : (0 < B.countP (fun K => decide ¬ (decide (K % 2 = 0)) = true)) ↔ ∃ m ∈ B, m % 2 = 1 := by
    rw [List.countP_pos_iff]
    constructor
    · rintro ⟨m, hm, e⟩
      rw [decide_eq_true_eq, decide_eq_true_eq] at e
      exact ⟨m, hm, by omega⟩
    · rintro ⟨m, hm, e⟩
      refine ⟨m, hm, ?_⟩
      rw [decide_eq_true_eq, decide_eq_true_eq]
      omega
  rw [← h3]
  omega
theorem r_firstMirror_L {mv hd : Nat → Int32} {n m : Nat} {B : List Nat} (hl : B.length ≤ 120) (hM : MA mv hd n (srt B)) (hm : m < B.length) (hm2 : (srt B).getD m 0 % 2 = 1) : ∀ d i fu, i + d = m → d < fu → ∃ j, j < B.length ∧ (srt B).getD j 0 % 2 = 1 ∧ f_X10_firstMirror_L2 hd (fun a => some a) fu (nI i) = some (nI j)
  | d, i, 0, _, h => by omega
  | 0, i, fu + 1, hi, _ => by
    have hL := srt_len B
    have e : i = m := by omega
    subst e
    rw [f_X10_firstMirror_L2, qe_rd _ (by omega) (by decide), ob_some, (hM i (by omega)).2, hm2, if_neg (by decide)]
    exact ⟨i, hm, hm2, rfl⟩
  | d + 1, i, fu + 1, hi, hfu => by
    have hL := srt_len B
    rw [f_X10_firstMirror_L2, qe_rd _ (by omega) (by decide), ob_some, (hM i (by omega)).2, nI_1]
    rcases Nat.mod_two_eq_zero_or_one ((srt B).getD i 0) with e | e
    · rw [e, if_pos (show nI 0 = (0 : Int32) from rfl)]
      exact r_firstMirror_L hl hM hm hm2 d (i + 1) fu (by omega) (by omega)
    · rw [e, if_neg (by decide)]
      exact ⟨i, by omega, e, rfl⟩
theorem r_firstMirror {mv hd : Nat → Int32} {n m : Nat} {B : List Nat} (hl : B.length ≤ 120) (hM : MA mv hd n (srt B)) (hm : m ∈ B) (hm2 : m % 2 = 1) : ∃ j, j < B.length ∧ (srt B).getD j 0 % 2 = 1 ∧ f_X10_firstMirror hd = some (nI j) := by
  have hL := srt_len B
  obtain ⟨i, hi, e⟩ := mem_getD (srt_mem.mpr hm)
  unfold f_X10_firstMirror
  exact r_firstMirror_L hl hM (show i < B.length by omega) (by rw [e]; exact hm2) i 0 q_fu (by omega) (fu_lt (by omega))
/-- what mirrors tell doesn't hang on the mirror -/
theorem oth_any {n m m2 P k : Nat} {B : List Nat} (hn : n ≤ 6) (hk : k ≤ 8) (h : Gp n B) (hm : m ∈ B) (hmo : m % 2 = 1) (hm2 : m2 ∈ B) (hmo2 : m2 % 2 = 1) (hP : Pt n k P) : oth n m P B = oth n m2 P B := by
  refine Nat.le_antisymm ?_ ?_
  · obtain ⟨K, hK, h1, h2⟩ := oth_is hn hk h hm2 hmo2 hP
    rw [← h2]
    exact oth_le hn h hm hmo hK h1 hP
  · obtain ⟨K, hK, h1, h2⟩ := oth_is hn hk h hm hmo hP
    rw [← h2]
    exact oth_le hn h hm2 hmo2 hK h1 hP
theorem r_otherHand {z mv hd pa : Nat → Int32} {n k P m : Nat} {B : List Nat} (hn : n ≤ 6) (hk1 : 1 ≤ k) (hk : k ≤ 4) (hz : z 0 = nI n) (hz1 : z 1 = nI k) (hB : KS B n) (hM : MA mv hd n (srt B)) (hP : Pt n k P) (hm : m ∈ B) (hm2 : m % 2 = 1) : ∃ pa', f_X10_otherHand (nI (idx n k P)) z (nI B.length) mv hd pa = some (nI (idx n k (oth n m P B)), pa') := by
  have h1 := idx_lt hP
  have h2 := pow_4096 hn hk
  have hl := hB.2
  have hL := srt_len B
  unfold f_X10_otherHand
  obtain ⟨pa1, hA, e1⟩ := r_paints (pa := pa) (v := idx n k P) hn hk1 hk hz hz1 (by omega)
  rw [pt_idx hn hk1 (by omega) hP] at hA
  obtain ⟨j, hj, hj2, e2⟩ := r_firstMirror hl hM hm hm2
  have hKj := KS_key hB (show j < (srt B).length by omega)
  have hmj : (srt B).getD j 0 ∈ B := srt_mem.mp (getD_mem (by omega))
  have hMd := ac_PtM hn (show k ≤ 8 by omega) hP hKj
  rw [e1, ob_some, e2, ob_some, r_becomes hn hz hz1 hA (by omega) (by omega) hM hKj, ob_some]
  obtain ⟨pa', -, e3⟩ := r_leastOf (pa := pa1) (b := 0) hn hk1 hk hz hz1 (by omega) hB hM hMd
  rw [show f_X10_leastOf 0 (nI (idx n k (ac n P ((srt B).getD j 0 / 2)))) z (nI B.length) mv hd pa1 = _ from e3, ob_some, oth_any hn (show k ≤ 8 by omega) hB.1 hm hm2 hmj hj2 hP]
  exact ⟨pa', rfl⟩
/-- HANDED -/
def hnd (n P : Nat) (B : List Nat) : Prop := ∃ m ∈ B, m % 2 = 1 ∧ oth n m P B ≠ lst n P (B0 B)
theorem r_isHanded {z mv hd pa : Nat → Int32} {n k P : Nat} {B : List Nat} (hn : n ≤ 6) (hk1 : 1 ≤ k) (hk : k ≤ 4) (hz : z 0 = nI n) (hz1 : z 1 = nI k) (hB : KS B n) (hM : MA mv hd n (srt B)) (hP : Pt n k P) : ∃ pa', (hnd n P B → f_X10_isHanded (nI (idx n k P)) z (nI B.length) mv hd pa = some (1, pa')) ∧ (¬ hnd n P B → f_X10_isHanded (nI (idx n k P)) z (nI B.length) mv hd pa = some (0, pa')) := by
  have hl := hB.2
  unfold f_X10_isHanded
  rw [r_mirrors hl hM, ob_some]
  by_cases hm : ∃ m ∈ B, m % 2 = 1
  · obtain ⟨m, hm1, hm2⟩ := hm
    have hpos := mirrors_pos.mpr ⟨m, hm1, hm2⟩
    rw [if_neg (nI_nle hpos (by omega))]
    obtain ⟨pa1, e1⟩ := r_otherHand (pa := pa) hn hk1 hk hz hz1 hB hM hP hm1 hm2
    obtain ⟨pa2, -, e2⟩ := r_leastOf (pa := pa1) (b := 0) hn hk1 hk hz hz1 (by omega) hB hM hP
    rw [e1, ob_some, show f_X10_leastOf 0 (nI (idx n k P)) z (nI B.length) mv hd pa1 = _ from e2, ob_some]
    have hO := oth_Pt hn (show k ≤ 8 by omega) hB.1 hm1 hP
    have hS := lst_Pt hn (show k ≤ 8 by omega) (B0_Gp hB.1) hP
    have i1 := idx_lt hO
    have i2 := idx_lt hS
    have i3 := pow_4096 hn hk
    refine ⟨pa2, fun h => ?_, fun h => ?_⟩
    · obtain ⟨m', hm1', hm2', hne⟩ := h
      rw [oth_any hn (show k ≤ 8 by omega) hB.1 hm1' hm2' hm1 hm2 hP] at hne
      exact if_neg (fun e => hne (idx_inj hO hS (nI_inj (by omega) (by show idx n k (lst n P (B0 B)) < _; omega) e)))
    · refine if_pos ?_
      apply Classical.byContradiction
      intro hne
      refine h ⟨m, hm1, hm2, fun e => hne ?_⟩
      show nI (idx n k (oth n m P B)) = nI (idx n k (lst n P (B0 B)))
      rw [e]
  · have hz0 : B.length - (B0 B).length = 0 := by
      have := mirrors_pos (B := B)
      by_cases h : 0 < B.length - (B0 B).length
      · exact absurd (this.mp h) hm
      · omega
    rw [hz0, if_pos (by decide)]
    exact ⟨pa, fun ⟨m, h1, h2, _⟩ => absurd ⟨m, h1, h2⟩ hm, fun _ => rfl⟩
