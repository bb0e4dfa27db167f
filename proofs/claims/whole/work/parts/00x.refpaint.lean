-- ===== the reference's paintings =====
def PA (a : Nat → Int32) (n P : Nat) : Prop := ∀ p, p < n → a p = nI (dg P p)
/-- the painting that a number tells -/
def pcode (n v : Nat) : Nat := pak n (fun p => di 10 n v p)
theorem pcode_Pt {n k v : Nat} (hn : n ≤ 6) (hk : k ≤ 4) (h : Dg n 0 k v) : Pt n k (pcode n v) := Pt_pak hn (by omega) (fun p hp => by have := (h.2 p hp).2; omega)
theorem pcode_dg {n k v p : Nat} (hn : n ≤ 6) (hk : k ≤ 4) (h : Dg n 0 k v) (hp : p < n) : dg (pcode n v) p = di 10 n v p := dg_pak hn (fun p hp => by have := (h.2 p hp).2; omega) hp
theorem rd0 {z : Nat → Int32} {n : Nat} (h : z 0 = nI n) : q_rd z 82 0 = some (nI n) := by rw [show (0 : Int32) = nI 0 from rfl, qe_rd _ (by decide) (by decide), h]
theorem rd1 {z : Nat → Int32} {k : Nat} (h : z 1 = nI k) : q_rd z 82 1 = some (nI k) := by rw [li_1, qe_rd _ (by decide) (by decide), h]
theorem rd2 {z : Nat → Int32} {k : Nat} (h : z 2 = nI k) : q_rd z 82 2 = some (nI k) := by rw [li_2, qe_rd _ (by decide) (by decide), h]
theorem r_indexOf_L {z : Nat → Int32} {n k v : Nat} (hn : n ≤ 6) (hk : k ≤ 4) (hz : z 0 = nI n) (hz1 : z 1 = nI k) (hv : v < 2 ^ 31) (K : Int32 → Int32 → Int32 → Int32 → Option Int32) : ∀ d i fu ix, i + d = n → d < fu → (∀ p, p < d → v / 10 ^ (n - 1 - p) % 10 < k) → ∃ by_, f_X10_indexOf_L10 z K fu (nI (v / 10 ^ i)) (nI ix) (nI (k ^ i)) (nI i) = K (nI (v / 10 ^ n)) (nI (ix + k ^ i * cb k (fun p => v / 10 ^ (n - 1 - p) % 10) d)) by_ (nI n)
  | d, i, 0, _, _, h, _ => by omega
  | 0, i, fu + 1, ix, hi, _, _ => by
    rw [f_X10_indexOf_L10, rd0 hz, ob_some, if_pos (nI_le (by omega) (by omega)), show i = n by omega, cb, Nat.mul_zero, Nat.add_zero]
    exact ⟨_, rfl⟩
  | d + 1, i, fu + 1, ix, hi, hfu, hd => by
    have hq : v / 10 ^ i ≤ v := Nat.div_le_self _ _
    have h1 := hd d (by omega)
    have e1 : n - 1 - d = i := by omega
    rw [e1] at h1
    have e3 : v / 10 ^ i / 10 = v / 10 ^ (i + 1) := by rw [Nat.div_div_eq_div_mul, ← Nat.pow_succ]
    rw [f_X10_indexOf_L10, rd0 hz, ob_some, if_neg (nI_ge (by omega) (by omega)), li_10, qe_rm (by omega) (by omega) (by decide), ob_some, if_neg (nI_pos (by omega)), rd1 hz1, ob_some, if_pos (nI_lt h1 (by omega)), ob_some, qe_dv (by omega) (by omega) (by decide), ob_some, nI_mul, nI_mul, nI_add, nI_1, e3, ← Nat.pow_succ]
    obtain ⟨by_, e⟩ := r_indexOf_L hn hk hz hz1 hv K d (i + 1) fu (ix + k ^ i * (v / 10 ^ i % 10)) (by omega) (by omega) (fun p hp => hd p (by omega))
    refine ⟨by_, ?_⟩
    rw [e, cb, e1, Nat.mul_add, Nat.pow_succ]
    congr 2
    rw [Nat.mul_comm (cb k _ d) k, ← Nat.mul_assoc]
    omega
theorem r_indexOf_bad {z : Nat → Int32} {n k v : Nat} (hn : n ≤ 6) (hk : k ≤ 4) (hz : z 0 = nI n) (hz1 : z 1 = nI k) (hv : v < 2 ^ 31) (K : Int32 → Int32 → Int32 → Int32 → Option Int32) : ∀ d i fu ix by_, i + d = n → d < fu → (¬ ∀ p, p < d → v / 10 ^ (n - 1 - p) % 10 < k) → f_X10_indexOf_L10 z K fu (nI (v / 10 ^ i)) ix by_ (nI i) = some (-1)
  | d, i, 0, _, _, _, h, _ => by omega
  | 0, i, fu + 1, ix, _, hi, _, h => absurd (fun p hp => absurd hp (Nat.not_lt_zero p)) h
  | d + 1, i, fu + 1, ix, by_, hi, hfu, hd => by
    have hq : v / 10 ^ i ≤ v := Nat.div_le_self _ _
    have e1 : n - 1 - d = i := by omega
    have e3 : v / 10 ^ i / 10 = v / 10 ^ (i + 1) := by rw [Nat.div_div_eq_div_mul, ← Nat.pow_succ]
    rw [f_X10_indexOf_L10, rd0 hz, ob_some, if_neg (nI_ge (by omega) (by omega)), li_10, qe_rm (by omega) (by omega) (by decide), ob_some, if_neg (nI_pos (by omega)), rd1 hz1, ob_some]
    by_cases h1 : v / 10 ^ i % 10 < k
    · rw [if_pos (nI_lt h1 (by omega)), ob_some, qe_dv (by omega) (by omega) (by decide), ob_some, nI_1, e3]
      refine r_indexOf_bad hn hk hz hz1 hv K d (i + 1) fu _ _ (by omega) (by omega) (fun h2 => hd (fun p hp => ?_))
      rcases Nat.lt_succ_iff_lt_or_eq.mp hp with hp | rfl
      · exact h2 p hp
      · rw [e1]; exact h1
    · rw [if_neg (fun e => h1 ((nI_ltI (by omega) (by omega)).mp e))]
theorem r_indexOf {z : Nat → Int32} {n k v : Nat} {x : Int32} (hn : n ≤ 6) (hk : k ≤ 4) (hz : z 0 = nI n) (hz1 : z 1 = nI k) (h : DI n 0 k x v) : f_X10_indexOf x z = some (nI (idx n k (pcode n v))) := by
  obtain ⟨hv, rfl, hd⟩ := h
  unfold f_X10_indexOf
  obtain ⟨by_, e⟩ := r_indexOf_L hn hk hz hz1 hv (fun l2_1 l3_1 l4_1 l5_1 => if l2_1 = 0 then (some (l3_1)) else (some ((-1)))) n 0 q_fu 0 (by omega) (fu_lt (by omega)) (fun p hp => by have := (Dg_at hd hp).2; omega)
  rw [Nat.pow_zero, Nat.div_one, Nat.pow_zero, Nat.one_mul, Nat.zero_add, Nat.div_eq_of_lt hd.1] at e
  refine Eq.trans e ?_
  show (if nI 0 = 0 then _ else _) = _
  rw [if_pos (show nI 0 = (0 : Int32) from rfl), idx, cb_cong (g := di 10 n v) (fun p hp => pcode_dg hn hk hd hp)]
  rfl
theorem r_indexOf_no {z : Nat → Int32} {n k : Nat} {x : Int32} (h1n : 1 ≤ n) (hn : n ≤ 6) (hk : k ≤ 4) (hz : z 0 = nI n) (hz1 : z 1 = nI k) (h : ¬ ∃ v, DI n 0 k x v) : f_X10_indexOf x z = some (-1) := by
  unfold f_X10_indexOf
  by_cases hx : x < 0
  · show f_X10_indexOf_L10 z _ (5999 + 1) x 0 1 0 = _
    rw [f_X10_indexOf_L10, rd0 hz, ob_some, if_neg (nI_nle (by omega) (by omega)), qe_rm10, ob_some, if_pos hx]
  · obtain ⟨v, hv, rfl⟩ := nat_of_nonneg hx
    by_cases hd : ∀ p, p < n → v / 10 ^ (n - 1 - p) % 10 < k
    · obtain ⟨by_, e⟩ := r_indexOf_L hn hk hz hz1 hv (fun l2_1 l3_1 l4_1 l5_1 => if l2_1 = 0 then (some (l3_1)) else (some ((-1)))) n 0 q_fu 0 (by omega) (fu_lt (by omega)) hd
      rw [Nat.pow_zero, Nat.div_one, Nat.pow_zero] at e
      refine Eq.trans e (if_neg ?_)
      intro hz
      have hq : v / 10 ^ n ≤ v := Nat.div_le_self _ _
      have hz2 : v / 10 ^ n = 0 := nI_inj (by omega) (by omega) hz
      exact h ⟨v, hv, rfl, (Nat.div_eq_zero_iff_lt (Nat.pow_pos (by decide))).mp hz2, fun p hp => ⟨Nat.zero_le _, by have := hd p hp; unfold di; omega⟩⟩
    · have e := r_indexOf_bad hn hk hz hz1 hv (fun l2_1 l3_1 l4_1 l5_1 => if l2_1 = 0 then (some (l3_1)) else (some ((-1)))) n 0 q_fu 0 1 (by omega) (fu_lt (by omega)) hd
      rw [Nat.pow_zero, Nat.div_one] at e
      exact e
/-- laid out -/
theorem r_paints_L {z : Nat → Int32} {n k v : Nat} (hn : n ≤ 6) (hk1 : 1 ≤ k) (hk : k ≤ 4) (hz1 : z 1 = nI k) (hv : v < 2 ^ 31) (K : Int32 → Int32 → (Nat → Int32) → Option (Nat → Int32)) : ∀ j fu pa, j ≤ n → j < fu → (∀ p, j ≤ p → p < n → pa p = nI (di k n v p)) → ∃ pa', (∀ p, p < n → pa' p = nI (di k n v p)) ∧ f_X10_paints_L11 z K fu (nI (v / k ^ (n - j))) (nI j - 1) pa = K (nI (v / k ^ n)) (-1) pa'
  | j, 0, _, _, h, _ => by omega
  | 0, fu + 1, pa, hj, hfu, h => by
    rw [f_X10_paints_L11, if_pos nI_dneg, Nat.sub_zero]
    exact ⟨pa, fun p hp => h p (Nat.zero_le _) hp, rfl⟩
  | j + 1, fu + 1, pa, hj, hfu, h => by
    have hq : v / k ^ (n - (j + 1)) ≤ v := Nat.div_le_self _ _
    have e1 : n - 1 - j = n - (j + 1) := by omega
    have e3 : v / k ^ (n - (j + 1)) / k = v / k ^ (n - j) := by
      rw [Nat.div_div_eq_div_mul, ← Nat.pow_succ]
      congr 2
      omega
    rw [f_X10_paints_L11, nI_dec (by omega), Nat.add_sub_cancel, if_neg (nI_pos (by omega)), rd1 hz1, ob_some, qe_rm (by omega) (by omega) (by omega), ob_some, qe_wt _ _ (by omega) (by decide), ob_some, ob_some, qe_dv (by omega) (by omega) (by omega), ob_some, nI_m1', e3]
    refine r_paints_L hn hk1 hk hz1 hv K j fu _ (by omega) (by omega) (fun p hp hpn => ?_)
    by_cases hpj : p = j
    · subst hpj
      rw [upd_at, di, e1]
    · rw [upd_ne _ hpj]
      exact h p (by omega) hpn
theorem r_paints {z pa : Nat → Int32} {n k v : Nat} (hn : n ≤ 6) (hk1 : 1 ≤ k) (hk : k ≤ 4) (hz : z 0 = nI n) (hz1 : z 1 = nI k) (hv : v < 2 ^ 31) : ∃ pa', PA pa' n (pt n k v) ∧ f_X10_paints (nI v) z pa = some pa' := by
  unfold f_X10_paints
  rw [rd0 hz, ob_some]
  obtain ⟨pa', h, e⟩ := r_paints_L hn hk1 hk hz1 hv (fun _ _ z_paint_2 => some z_paint_2) n q_fu pa (Nat.le_refl _) (fu_lt (by omega)) (fun p h1 h2 => by omega)
  rw [Nat.sub_self, Nat.pow_zero, Nat.div_one] at e
  exact ⟨pa', fun p hp => by rw [h p hp, pt_dg hn hk1 (by omega) hp], e⟩
theorem r_tells_L {z pa : Nat → Int32} {n P : Nat} (hn : n ≤ 6) (hz : z 0 = nI n) (hA : PA pa n P) (K : Int32 → Int32 → Option (Int32 × (Nat → Int32))) : ∀ d i fu, i + d = n → d < fu → f_X10_tellsPainting_L9 z pa K fu (nI (cb 10 (dg P) i)) (nI i) = K (nI (cb 10 (dg P) n)) (nI n)
  | d, i, 0, _, h => by omega
  | 0, i, fu + 1, hi, _ => by
    rw [f_X10_tellsPainting_L9, rd0 hz, ob_some, if_pos (nI_le (by omega) (by omega)), show i = n by omega]
  | d + 1, i, fu + 1, hi, hfu => by
    rw [f_X10_tellsPainting_L9, rd0 hz, ob_some, if_neg (nI_ge (by omega) (by omega)), qe_rd _ (by omega) (by decide), ob_some, hA i (by omega), li_10, nI_mul, nI_add, nI_1, Nat.mul_comm 10]
    exact r_tells_L hn hz hA K d (i + 1) fu (by omega) (by omega)
theorem r_tells {z pa : Nat → Int32} {n k P : Nat} (hn : n ≤ 6) (hk1 : 1 ≤ k) (hk : k ≤ 4) (hz : z 0 = nI n) (hz1 : z 1 = nI k) (hP : Pt n k P) : ∃ pa', f_X10_tellsPainting (nI (idx n k P)) z pa = some (nI (cb 10 (dg P) n), pa') := by
  unfold f_X10_tellsPainting
  have h1 := idx_lt hP
  have h2 := pow_4096 hn hk
  obtain ⟨pa', hA, e⟩ := r_paints (pa := pa) (v := idx n k P) hn hk1 hk hz hz1 (by omega)
  rw [pt_idx hn hk1 (by omega) hP] at hA
  rw [e, ob_some]
  exact ⟨pa', r_tells_L hn hz hA (fun l2_2 _ => some (l2_2, pa')) n 0 q_fu (by omega) (fu_lt (by omega))⟩
/-- what a painting, laid out, becomes -/
theorem r_becomes_L {z mv pa : Nat → Int32} {n k j P R : Nat} (hn : n ≤ 6) (hz : z 0 = nI n) (hz1 : z 1 = nI k) (hA : PA pa n P) (hj : j < 121) (hm : ∀ p, p < n → mv (6 * j + p) = nI (dg R p)) (hR : ∀ p, p < n → dg R p < n) (K : Int32 → Int32 → Option Int32) : ∀ d i fu, i + d = n → d < fu → f_X10_becomes_L4 (nI j) z mv pa K fu (nI (cb k (fun p => dg P (dg R p)) i)) (nI i) = K (nI (cb k (fun p => dg P (dg R p)) n)) (nI n)
  | d, i, 0, _, h => by omega
  | 0, i, fu + 1, hi, _ => by
    rw [f_X10_becomes_L4, rd0 hz, ob_some, if_pos (nI_le (by omega) (by omega)), show i = n by omega]
  | d + 1, i, fu + 1, hi, hfu => by
    have h1 := hR i (by omega)
    rw [f_X10_becomes_L4, rd0 hz, ob_some, if_neg (nI_ge (by omega) (by omega)), rd1 hz1, ob_some, r_digit (by omega), ob_some, hm i (by omega), qe_rd _ (by omega) (by decide), ob_some, hA _ h1, nI_mul, nI_add, nI_1]
    exact r_becomes_L hn hz hz1 hA hj hm hR K d (i + 1) fu (by omega) (by omega)
theorem r_becomes {z mv hd pa : Nat → Int32} {n k j P : Nat} {L : List Nat} (hn : n ≤ 6) (hz : z 0 = nI n) (hz1 : z 1 = nI k) (hA : PA pa n P) (hl : L.length ≤ 120) (hj : j < L.length) (hM : MA mv hd n L) (hMv : Mv n (L.getD j 0)) : f_X10_becomes (nI j) z mv pa = some (nI (idx n k (ac n P (L.getD j 0 / 2)))) := by
  unfold f_X10_becomes
  have h := r_becomes_L (k := k) hn hz hz1 hA (show j < 121 by omega) (hM j hj).1 (fun p hp => Mv_dg hMv hp) (fun l2_1 _ => some l2_1) n 0 q_fu (by omega) (fu_lt (by omega))
  rw [idx, cb_cong (f := dg (ac n P (L.getD j 0 / 2))) (g := fun p => dg P (dg (L.getD j 0 / 2) p)) (fun p hp => ac_dg hn hp)]
  exact h
theorem r_counts {mv hd : Nat → Int32} {n j b : Nat} {L : List Nat} (hb : b ≤ 1) (hl : L.length ≤ 120) (hj : j < L.length) (hM : MA mv hd n L) : f_X10_counts (nI j) (nI b) hd = some (if L.getD j 0 % 2 ≤ b then 1 else 0) := by
  unfold f_X10_counts
  rcases (show b = 0 ∨ b = 1 by omega) with rfl | rfl
  · rw [if_neg (by decide), qe_rd _ (by omega) (by decide), ob_some, (hM j hj).2]
    by_cases h : L.getD j 0 % 2 ≤ 0
    · rw [if_pos h, if_pos (by rw [show L.getD j 0 % 2 = 0 by omega]; rfl)]
    · rw [if_neg h, if_neg (nI_ne0 (by omega) (by omega))]
  · rw [if_pos (show nI 1 = (1 : Int32) from rfl), if_pos (by omega)]
theorem r_manyOf_L {mv hd : Nat → Int32} {n b : Nat} {L : List Nat} (hb : b ≤ 1) (hl : L.length ≤ 120) (hM : MA mv hd n L) (K : Int32 → Int32 → Option Int32) : ∀ d i fu c, i + d = L.length → d < fu → f_X10_manyOf_L4 (nI b) (nI L.length) hd K fu (nI c) (nI i) = K (nI (c + (L.drop i).countP (fun K => decide (K % 2 ≤ b)))) (nI L.length)
  | d, i, 0, _, _, h => by omega
  | 0, i, fu + 1, c, hi, _ => by
    rw [f_X10_manyOf_L4, if_pos (nI_le (by omega) (by omega)), List.drop_eq_nil_of_le (by omega), show i = L.length by omega]
    rfl
  | d + 1, i, fu + 1, c, hi, hfu => by
    have hiL : i < L.length := by omega
    rw [f_X10_manyOf_L4, if_neg (nI_ge (by omega) (by omega)), r_counts hb hl hiL hM, ob_some, drop_cons hiL, List.countP_cons, nI_1, nI_1, show nI c + 0 = nI c from Int32.add_zero _]
    by_cases h : L.getD i 0 % 2 ≤ b
    · rw [if_pos h, if_neg (show ¬ (1 : Int32) = 0 by decide), r_manyOf_L hb hl hM K d (i + 1) fu (c + 1) (by omega) (by omega), if_pos (decide_eq_true h)]
      congr 2
      omega
    · rw [if_neg h, if_pos rfl, r_manyOf_L hb hl hM K d (i + 1) fu c (by omega) (by omega), if_neg (by rw [decide_eq_true_eq]; exact h)]
      rfl
theorem BY_len_cnt {b : Nat} {B : List Nat} (hb : b ≤ 1) : (srt B).countP (fun K => decide (K % 2 ≤ b)) = (BY b B).length := by
  rw [(srt_perm B).countP_eq, ← cnt_all (f := fun _ => true) (B := BY b B) (fun _ _ => rfl), BY_cnt hb]
  refine List.countP_congr (fun K _ => ?_)
  rw [Bool.and_true]
theorem r_manyOf {mv hd : Nat → Int32} {n b : Nat} {B : List Nat} (hb : b ≤ 1) (hl : B.length ≤ 120) (hM : MA mv hd n (srt B)) : f_X10_manyOf (nI b) (nI B.length) hd = some (nI (BY b B).length) := by
  unfold f_X10_manyOf
  have hL := srt_len B
  have h := r_manyOf_L hb (by omega) hM (fun l2_1 _ => some l2_1) (srt B).length 0 q_fu 0 (by omega) (fu_lt (by omega))
  rw [List.drop_zero, Nat.zero_add, BY_len_cnt hb] at h
  rw [← hL]
  exact h
/-- the reference's moves, as they stand behind moves() -/
def MS (B : List Nat) (n : Nat) (mm : Int32) (mv hd : Nat → Int32) : Prop := MA mv hd n (srt B) ∧ mm = nI B.length
theorem r_leastOf_L {z mv hd pa : Nat → Int32} {n k b P : Nat} {B : List Nat} (hn : n ≤ 6) (hk : k ≤ 4) (hz : z 0 = nI n) (hz1 : z 1 = nI k) (hb : b ≤ 1) (hB : KS B n) (hM : MA mv hd n (srt B)) (hP : Pt n k P) (hA : PA pa n P) (K : Int32 → Int32 → Option (Int32 × (Nat → Int32))) :
    ∀ d i fu Q, i + d = B.length → d < fu → Pt n k Q → Q ≤ P → (Q = P ∨ ∃ K ∈ BY b B, Q = ac n P (K / 2)) → (∀ j, j < i → (srt B).getD j 0 % 2 ≤ b → Q ≤ ac n P ((srt B).getD j 0 / 2)) → ∃ Q', Pt n k Q' ∧ (Q' = P ∨ ∃ K ∈ BY b B, Q' = ac n P (K / 2)) ∧ (∀ j, j < B.length → (srt B).getD j 0 % 2 ≤ b → Q' ≤ ac n P ((srt B).getD j 0 / 2)) ∧ f_X10_leastOf_L10 (nI b) z (nI B.length) mv hd pa K fu (nI (idx n k Q)) (nI i) = K (nI (idx n k Q')) (nI B.length)
  | d, i, 0, _, _, h, _, _, _, _ => by omega
  | 0, i, fu + 1, Q, hi, _, hQ, hle, hor, hall => by
    have hl := hB.2
    rw [f_X10_leastOf_L10, if_pos (nI_le (by omega) (by omega)), show i = B.length by omega]
    exact ⟨Q, hQ, hor, fun j hj => hall j (by omega), rfl⟩
  | d + 1, i, fu + 1, Q, hi, hfu, hQ, hle, hor, hall => by
    have hl := hB.2
    have hL := srt_len B
    have hiL : i < (srt B).length := by omega
    have hK := KS_key hB hiL
    have hMd := ac_PtM hn (show k ≤ 8 by omega) hP hK
    have i1 := idx_lt hQ
    have i2 := idx_lt hMd
    have i3 := pow_4096 hn hk
    rw [f_X10_leastOf_L10, if_neg (nI_ge (by omega) (by omega)), r_counts hb (by omega) hiL hM, ob_some, r_becomes hn hz hz1 hA (by omega) hiL hM hK, ob_some, nI_1]
    by_cases h : (srt B).getD i 0 % 2 ≤ b
    · have ho := idx_ord hn (by omega) hMd hQ
      have hKm : (srt B).getD i 0 ∈ BY b B := (BY_mem hb).mpr ⟨srt_mem.mp (getD_mem hiL), h⟩
      rw [if_pos h, if_neg (show ¬ (1 : Int32) = 0 by decide)]
      by_cases h2 : ac n P ((srt B).getD i 0 / 2) < Q
      · rw [if_pos (nI_lt (ho.mp h2) (by omega))]
        refine r_leastOf_L hn hk hz hz1 hb hB hM hP hA K d (i + 1) fu _ (by omega) (by omega) hMd (by omega) (Or.inr ⟨_, hKm, rfl⟩) (fun j hj hq => ?_)
        rcases Nat.lt_succ_iff_lt_or_eq.mp hj with hj | rfl
        · have := hall j hj hq
          omega
        · exact Nat.le_refl _
      · rw [if_neg (fun e => h2 (ho.mpr ((nI_ltI (by omega) (by omega)).mp e)))]
        refine r_leastOf_L hn hk hz hz1 hb hB hM hP hA K d (i + 1) fu _ (by omega) (by omega) hQ hle hor (fun j hj hq => ?_)
        rcases Nat.lt_succ_iff_lt_or_eq.mp hj with hj | rfl
        · exact hall j hj hq
        · omega
    · rw [if_neg h, if_pos rfl]
      refine r_leastOf_L hn hk hz hz1 hb hB hM hP hA K d (i + 1) fu _ (by omega) (by omega) hQ hle hor (fun j hj hq => ?_)
      rcases Nat.lt_succ_iff_lt_or_eq.mp hj with hj | rfl
      · exact hall j hj hq
      · exact absurd hq h
theorem r_leastOf {z mv hd pa : Nat → Int32} {n k b P : Nat} {B : List Nat} (hn : n ≤ 6) (hk1 : 1 ≤ k) (hk : k ≤ 4) (hz : z 0 = nI n) (hz1 : z 1 = nI k) (hb : b ≤ 1) (hB : KS B n) (hM : MA mv hd n (srt B)) (hP : Pt n k P) : ∃ pa', PA pa' n P ∧ f_X10_leastOf (nI b) (nI (idx n k P)) z (nI B.length) mv hd pa = some (nI (idx n k (lst n P (BY b B))), pa') := by
  unfold f_X10_leastOf
  have h1 := idx_lt hP
  have h2 := pow_4096 hn hk
  have hl := hB.2
  have hL := srt_len B
  obtain ⟨pa', hA, e⟩ := r_paints (pa := pa) (v := idx n k P) hn hk1 hk hz hz1 (by omega)
  rw [pt_idx hn hk1 (by omega) hP] at hA
  rw [e, ob_some]
  obtain ⟨Q, hQ, hor, hall, e2⟩ := r_leastOf_L hn hk hz hz1 hb hB hM hP hA (fun l3_2 _ => some (l3_2, pa')) B.length 0 q_fu P (by omega) (fu_lt (by omega)) hP (Nat.le_refl _) (Or.inl rfl) (fun j hj => by omega)
  have hG := BY_Gp (b := b) hB.1
  have : Q = lst n P (BY b B) := by
    refine lst_one hn hG hP ?_ ?_
    · rcases hor with rfl | ⟨K, hK, rfl⟩
      · exact ⟨one n, hG.2.2.1, ac_one hn hP⟩
      · exact ⟨K, hK, rfl⟩
    · intro K hK
      have hK2 := (BY_mem hb).mp hK
      obtain ⟨j, hj, ej⟩ := mem_getD (srt_mem.mpr hK2.1)
      rw [← ej]
      exact hall j (by omega) (by rw [ej]; exact hK2.2)
  rw [← this]
  exact ⟨pa', hA, e2⟩
theorem r_sizeOf_L {z mv hd pa : Nat → Int32} {n k b P : Nat} {B : List Nat} (hn : n ≤ 6) (hk : k ≤ 4) (hz : z 0 = nI n) (hz1 : z 1 = nI k) (hb : b ≤ 1) (hB : KS B n) (hM : MA mv hd n (srt B)) (hP : Pt n k P) (hA : PA pa n P) (KK : Int32 → Int32 → Option (Int32 × (Nat → Int32))) :
    ∀ d i fu c, i + d = B.length → d < fu → f_X10_sizeOf_L10 (nI b) (nI (idx n k P)) z (nI B.length) mv hd pa KK fu (nI c) (nI i) = KK (nI (c + ((srt B).drop i).countP (fun K => decide (K % 2 ≤ b) && decide (ac n P (K / 2) = P)))) (nI B.length)
  | d, i, 0, _, _, h => by omega
  | 0, i, fu + 1, c, hi, _ => by
    have hl := hB.2
    have hL := srt_len B
    rw [f_X10_sizeOf_L10, if_pos (nI_le (by omega) (by omega)), List.drop_eq_nil_of_le (by omega), show i = B.length by omega]
    rfl
  | d + 1, i, fu + 1, c, hi, hfu => by
    have hl := hB.2
    have hL := srt_len B
    have hiL : i < (srt B).length := by omega
    have hK := KS_key hB hiL
    have hMd := ac_PtM hn (show k ≤ 8 by omega) hP hK
    have i1 := idx_lt hP
    have i2 := idx_lt hMd
    have i3 := pow_4096 hn hk
    rw [f_X10_sizeOf_L10, if_neg (nI_ge (by omega) (by omega)), r_counts hb (by omega) hiL hM, ob_some, r_becomes hn hz hz1 hA (by omega) hiL hM hK, ob_some, nI_1, nI_1, show nI c + 0 = nI c from Int32.add_zero _, drop_cons hiL, List.countP_cons]
    by_cases h1 : (srt B).getD i 0 % 2 ≤ b
    · rw [if_pos h1, if_neg (show ¬ (1 : Int32) = 0 by decide)]
      by_cases h2 : ac n P ((srt B).getD i 0 / 2) = P
      · rw [if_pos (by rw [h2]), r_sizeOf_L hn hk hz hz1 hb hB hM hP hA KK d (i + 1) fu (c + 1) (by omega) (by omega), if_pos (by rw [Bool.and_eq_true, decide_eq_true_eq, decide_eq_true_eq]; exact ⟨h1, h2⟩)]
        congr 2
        omega
      · rw [if_neg (fun z => h2 (idx_inj hMd hP (nI_inj (by omega) (by omega) z))), r_sizeOf_L hn hk hz hz1 hb hB hM hP hA KK d (i + 1) fu c (by omega) (by omega), if_neg (fun z => by rw [Bool.and_eq_true, decide_eq_true_eq, decide_eq_true_eq] at z; exact h2 z.2)]
        rfl
    · rw [if_neg h1, if_pos rfl, r_sizeOf_L hn hk hz hz1 hb hB hM hP hA KK d (i + 1) fu c (by omega) (by omega), if_neg (fun z => by rw [Bool.and_eq_true, decide_eq_true_eq] at z; exact h1 z.1)]
      rfl
theorem r_sizeOf {z mv hd pa : Nat → Int32} {n k b P : Nat} {B : List Nat} (hn : n ≤ 6) (hk1 : 1 ≤ k) (hk : k ≤ 4) (hz : z 0 = nI n) (hz1 : z 1 = nI k) (hb : b ≤ 1) (hB : KS B n) (hM : MA mv hd n (srt B)) (hP : Pt n k P) : ∃ pa', PA pa' n P ∧ f_X10_sizeOf (nI b) (nI (idx n k P)) z (nI B.length) mv hd pa = some (nI (siz n P (BY b B)), pa') := by
  unfold f_X10_sizeOf
  have h1 := idx_lt hP
  have h2 := pow_4096 hn hk
  have hl := hB.2
  have hL := srt_len B
  obtain ⟨pa', hA, e⟩ := r_paints (pa := pa) (v := idx n k P) hn hk1 hk hz hz1 (by omega)
  rw [pt_idx hn hk1 (by omega) hP] at hA
  rw [e, ob_some]
  have h := r_sizeOf_L hn hk hz hz1 hb hB hM hP hA (fun l3_2 _ => (f_X10_manyOf (nI b) (nI B.length) hd).bind fun t3 => (q_dv t3 l3_2).bind fun t4 => some (t4, pa')) B.length 0 q_fu 0 (by omega) (fu_lt (by omega))
  have hc : ((srt B).drop 0).countP (fun K => decide (K % 2 ≤ b) && decide (ac n P (K / 2) = P)) = (BY b B).countP (fun K => decide (ac n P (K / 2) = P)) := by
    rw [List.drop_zero, (srt_perm B).countP_eq, BY_cnt hb]
  rw [Nat.zero_add, hc] at h
  have hp := stay_pos hn (BY_Gp (b := b) hB.1) hP
  have hle : (BY b B).countP (fun K => decide (ac n P (K / 2) = P)) ≤ (BY b B).length := List.countP_le_length
  have hl2 := BY_len (b := b) (B := B)
  refine ⟨pa', hA, h.trans ?_⟩
  rw [r_manyOf hb hl hM, ob_some, qe_dv (by omega) (by omega) hp, ob_some, siz]
