-- ===== the class's index filled; how many classes =====
theorem lN_div {a b : Nat} (ha : a < 2 ^ 62) (hb : b < 2 ^ 62) : lN a / lN b = lN (a / b) := by
  have t : ∀ {c : Nat}, c < 2 ^ 62 → (lN c).toInt = (c : Int) := fun {c} h => lg_ofNat_toInt (by omega)
  have hq : a / b ≤ a := Nat.div_le_self _ _
  apply Int64.toInt_inj.mp
  rw [Int64.toInt_div, t ha, t hb, t (by omega)]
  show ((a / b : Nat) : Int).bmod (2 ^ 64) = _
  generalize a / b = q at hq
  exact fb_bmodL (by omega) (by omega)
theorem lN_ne0 {b : Nat} (h0 : 0 < b) (h : b < 2 ^ 31) : ¬ lN b = 0 := by
  intro h2
  have := (lN_eq h (by decide)).mp (show lN b = lN 0 from h2)
  omega
theorem qe_ld {a b : Nat} (ha : a < 2 ^ 62) (hb : b < 2 ^ 31) (h : 0 < b) : q_ld (lN a) (lN b) = some (lN (a / b)) := by
  unfold q_ld
  rw [if_neg (lN_ne0 h hb), lN_div ha (by omega)]
theorem e_pl_i {x c : Nat} {a4 a5 : Int32} (hx : x < 2 ^ 31) (hc : c ≤ 9) (K : Int64 → Int32 → Option Int64) : ∀ j fu a, j ≤ c → j < fu → f_X4_paintingsLeft_L22 (nI x) a4 a5 K fu (lN a) (nI j) = K (lN (a * x ^ j)) (nI 0)
  | j, 0, _, _, h => by omega
  | 0, fu + 1, a, _, _ => by
    rw [f_X4_paintingsLeft_L22, if_pos (by decide), Nat.pow_zero, Nat.mul_one]
  | j + 1, fu + 1, a, hj, hfu => by
    rw [f_X4_paintingsLeft_L22, if_neg (nI_nle (by omega) (by omega)), nI_l hx, lN_mul, nI_m1 (by omega), Nat.add_sub_cancel, e_pl_i hx hc K j fu _ (by omega) (by omega), Nat.pow_succ, Nat.mul_comm (x ^ j) x, Nat.mul_assoc]
theorem e_pl_L {x : Nat} (hx : x < 2 ^ 31) : ∀ d i fu v a, i + d = 6 → d < fu → v < 2 ^ 31 → ∃ v', f_X4_paintingsLeft_L8 (nI x) (fun l2_1 _ _ => some l2_1) fu (lN a) (nI v) (nI i) = (fun (l2_1 : Int64) (_ _ : Int32) => some l2_1) (lN (a * x ^ dsum d v)) v' (nI 6)
  | d, i, 0, _, _, _, h, _ => by omega
  | 0, i, fu + 1, v, a, hi, _, _ => by
    rw [f_X4_paintingsLeft_L8, li_6, if_pos (nI_le (by omega) (by omega)), dsum, Nat.pow_zero, Nat.mul_one]
    exact ⟨0, rfl⟩
  | d + 1, i, fu + 1, v, a, hi, hfu, hv => by
    have hm : v % 10 < 10 := Nat.mod_lt _ (by decide)
    have hd : v / 10 ≤ v := Nat.div_le_self _ _
    rw [f_X4_paintingsLeft_L8, li_6, if_neg (nI_ge (by omega) (by omega)), li_10, qe_rm hv (by omega) (by decide), ob_some, e_pl_i (c := 9) hx (by omega) _ (v % 10) q_fu a (by omega) (fu_lt (by omega)), qe_dv hv (by omega) (by decide), ob_some, nI_1]
    obtain ⟨v', e⟩ := e_pl_L hx d (i + 1) fu (v / 10) (a * x ^ (v % 10)) (by omega) (by omega) (by omega)
    refine ⟨v', ?_⟩
    rw [e, dsum, Nat.pow_add, Nat.mul_assoc]
theorem e_paintingsLeft {x t : Nat} (hx : x < 2 ^ 31) (ht : t < 2 ^ 31) : f_X4_paintingsLeft (nI t) (nI x) = some (lN (x ^ dsum 6 t)) := by
  unfold f_X4_paintingsLeft
  obtain ⟨v', e⟩ := e_pl_L hx 6 0 q_fu t 1 (by omega) (fu_lt (by omega)) ht
  rw [Nat.one_mul] at e
  exact e
/-- the types of the moves by 0 or 1, in order -/
def tps (n b : Nat) (L : List Nat) : List Nat := (L.filter (fun K => decide (K % 2 ≤ b))).map (fun K => typ n (rwf n (K / 2)))
def TT (n b : Nat) (B : List Nat) : List (Nat × Nat) := TLs (tps n b (srt B))
theorem tps_in {n b : Nat} {L : List Nat} (h2 : 2 ≤ n) (h6 : n ≤ 6) (h : ∀ K ∈ L, Mv n K) : ∀ t ∈ tps n b L, t ∈ tyl n := by
  intro t ht
  obtain ⟨K, hK, rfl⟩ := List.mem_map.mp ht
  exact (chk_facts h2 h6 (h K (List.mem_filter.mp hK).1)).2.2.1
theorem TLs_TO : ∀ (ts : List Nat) (T : List (Nat × Nat)), TO T → TO (ts.foldl (fun T t => tadd t T) T)
  | [], T, h => h
  | t :: ts, T, h => TLs_TO ts _ (tadd_TO h)
theorem TLs_in {n : Nat} : ∀ (ts : List Nat) (T : List (Nat × Nat)), (∀ t ∈ ts, t ∈ tyl n) → (∀ q ∈ T, q.1 ∈ tyl n) → ∀ q ∈ ts.foldl (fun T t => tadd t T) T, q.1 ∈ tyl n
  | [], T, _, h => h
  | t :: ts, T, h1, h => TLs_in ts _ (fun t ht => h1 t (List.mem_cons_of_mem _ ht)) (fun q hq => by
    rcases tadd_mem hq with e | ⟨r, hr, e⟩
    · rw [e]; exact h1 t List.mem_cons_self
    · rw [← e]; exact h r hr)
theorem tsum_TT (g : Nat → Nat) {n b : Nat} {B : List Nat} (hb : b ≤ 1) : tsum g (TT n b B) = sm (fun K => g (typ n (rwf n (K / 2)))) (BY b B) := by
  unfold TT TLs
  rw [tsum_TLs, show tsum g [] = 0 from rfl, Nat.zero_add]
  unfold tps sm
  rw [List.map_map]
  have hp : ((srt B).filter (fun K => decide (K % 2 ≤ b))).Perm (BY b B) := by
    refine ((srt_perm B).filter _).trans ?_
    rcases (show b = 0 ∨ b = 1 by omega) with rfl | rfl
    · refine List.Perm.of_eq ?_
      show _ = B0 B
      unfold B0
      congr 1
      funext K
      congr 1
      exact propext (by omega)
    · refine List.Perm.of_eq ?_
      show _ = B
      rw [List.filter_eq_self]
      intro K _
      exact decide_eq_true (by omega)
  exact (hp.map _).sum_nat
theorem e_fill_L {n b : Nat} {B : List Nat} {keys : Nat → Int32} (h2 : 2 ≤ n) (hn : n ≤ 6) (hb : b ≤ 1) (hB : KS B n) (hA : AK keys (srt B)) (KK : Int32 → (Nat → Int32) → (Nat → Int32) → Int32 → Option ((Nat → Int32) × (Nat → Int32) × Int32 × Int32)) :
    ∀ d i fu T so of_ ss, i + d = B.length → d < fu → IX n T so of_ ss → ∃ so' of' ss', IX n ((tps n b ((srt B).drop i)).foldl (fun T t => tadd t T) T) so' of' ss' ∧ f_X4_fill_L16 (nI b) keys (nI B.length) (nI n) KK fu (nI i) so of_ ss = KK (nI B.length) so' of' ss'
  | d, i, 0, _, _, _, _, _, h, _ => by omega
  | 0, i, fu + 1, T, so, of_, ss, hi, _, hI => by
    have hl := hB.2
    have hL := srt_len B
    rw [f_X4_fill_L16, if_pos (nI_le (by omega) (by omega)), List.drop_eq_nil_of_le (by omega), show i = B.length by omega]
    exact ⟨so, of_, ss, hI, rfl⟩
  | d + 1, i, fu + 1, T, so, of_, ss, hi, hfu, hI => by
    have hl := hB.2
    have hL := srt_len B
    have hiL : i < (srt B).length := by omega
    have hK := KS_key hB hiL
    have hK2 := Mv_lt hK
    rw [f_X4_fill_L16, if_neg (nI_ge (by omega) (by omega)), qe_rd _ (by omega) (by decide), ob_some, hA i hiL, e_hand, ob_some, e_row (by omega), e_cycleType h2 hn hK, ob_some, nI_1, drop_cons hiL, tps]
    by_cases h1 : b < (srt B).getD i 0 % 2
    · rw [if_pos (nI_lt h1 (by omega)), List.filter_cons_of_neg (by rw [decide_eq_true_eq]; omega)]
      exact e_fill_L h2 hn hb hB hA KK d (i + 1) fu T so of_ ss (by omega) (by omega) hI
    · rw [if_neg (nI_nlt (by omega) (by omega)), List.filter_cons_of_pos (by rw [decide_eq_true_eq]; omega), List.map_cons, List.foldl_cons]
      obtain ⟨s', o', t', e, hI2⟩ := e_add hI (chk_facts h2 hn hK).2.2.1
      rw [e, ob_some]
      exact e_fill_L h2 hn hb hB hA KK d (i + 1) fu _ s' o' t' (by omega) (by omega) hI2
theorem e_fill {n b : Nat} {B : List Nat} {keys so of_ : Nat → Int32} {ss mo : Int32} (h2 : 2 ≤ n) (hn : n ≤ 6) (hb : b ≤ 1) (hB : KS B n) (hA : AK keys (srt B)) :
    ∃ so' of' ss', IX n (TT n b B) so' of' ss' ∧ f_X4_fill (nI b) so of_ ss mo keys (nI B.length) (nI (B.countP (fun K => decide (K % 2 = 0)))) (nI n) = some (so', of', ss', nI (BY b B).length) := by
  unfold f_X4_fill f_X5_howManyBy
  have e1 : (if nI b = (0 : Int32) then (some (nI (B.countP (fun K => decide (K % 2 = 0))))) else (some (nI B.length))) = some (nI (BY b B).length) := by
    rw [← BY_lenI hb]
    split <;> rfl
  rw [e1, ob_some]
  have hI0 : IX n [] so of_ 0 := ⟨fun j hj => (by cases hj), fun j hj => (by cases hj), rfl, List.Pairwise.nil, fun q hq => (by cases hq)⟩
  obtain ⟨s', o', t', hI, e⟩ := e_fill_L h2 hn hb hB hA (fun _ i_sort_2 i_howOften_2 i_sorts_2 => some (i_sort_2, i_howOften_2, i_sorts_2, nI (BY b B).length)) B.length 0 q_fu [] so of_ 0 (by omega) (fu_lt (by have := hB.2; omega)) hI0
  rw [List.drop_zero] at hI
  exact ⟨s', o', t', hI, e⟩
theorem tsum_drop (g : Nat → Nat) {T : List (Nat × Nat)} {i : Nat} (h : i < T.length) : tsum g (T.drop i) = (snds T).getD i 0 * g ((fsts T).getD i 0) + tsum g (T.drop (i + 1)) := by
  rw [List.drop_eq_getElem_cons h, tsum, List.map_cons, List.sum_cons]
  congr 1
  unfold fsts snds
  rw [List.getD_eq_getElem?_getD, List.getD_eq_getElem?_getD, List.getElem?_map, List.getElem?_map, List.getElem?_eq_getElem h]
  rfl
theorem e_cf_L {n x : Nat} {T : List (Nat × Nat)} {so of_ : Nat → Int32} {ss : Int32} (hx : x < 2 ^ 31) (hI : IX n T so of_ ss) (hc : ∀ c ∈ snds T, c < 2 ^ 31) (K : Int64 → Int32 → Option Int64) : ∀ d i fu a, i + d = T.length → d < fu → f_X4_classesFor_L5 (nI x) so of_ ss K fu (lN a) (nI i) = K (lN (a + tsum (fun t => x ^ dsum 6 t) (T.drop i))) (nI T.length)
  | d, i, 0, _, _, h => by omega
  | 0, i, fu + 1, a, hi, _ => by
    have hl := IX_len hI.2.2.2.1 hI.2.2.2.2
    rw [f_X4_classesFor_L5, hI.2.2.1, if_pos (nI_le (by omega) (by omega)), List.drop_eq_nil_of_le (by omega), show i = T.length by omega]
    rfl
  | d + 1, i, fu + 1, a, hi, hfu => by
    have hl := IX_len hI.2.2.2.1 hI.2.2.2.2
    have h1 := fsts_len T
    have h2 := snds_len T
    have hcc := hc _ (getD_mem (show i < (snds T).length by omega))
    have htt : (fsts T).getD i 0 < 2 ^ 31 := by
      obtain ⟨q, hq, e⟩ := List.mem_map.mp (getD_mem (show i < (fsts T).length by omega))
      have := tyl_lt (hI.2.2.2.2 q hq)
      rw [show (fsts T).getD i 0 = q.1 from e.symm]
      omega
    rw [f_X4_classesFor_L5, hI.2.2.1, if_neg (nI_ge (by omega) (by omega)), qe_rd _ (by omega) (by decide), ob_some, qe_rd _ (by omega) (by decide), ob_some, hI.1 i (by omega), hI.2.1 i (by omega), e_paintingsLeft hx htt, ob_some, nI_l hcc, lN_mul, lN_add, nI_1, ← hI.2.2.1, e_cf_L hx hI hc K d (i + 1) fu _ (by omega) (by omega), tsum_drop _ (show i < T.length by omega), Nat.add_assoc, hI.2.2.1]
theorem mem_le_sum {x : Nat} : ∀ {L : List Nat}, x ∈ L → x ≤ L.sum
  | [], h => by cases h
  | a :: L, h => by
    rw [List.sum_cons]
    rcases List.mem_cons.mp h with rfl | h
    · omega
    · have := mem_le_sum h
      omega
theorem cnt_le {n b : Nat} {B : List Nat} (hb : b ≤ 1) : ∀ c ∈ snds (TT n b B), c ≤ (BY b B).length := by
  intro c hc
  have h : tsum (fun _ => 1) (TT n b B) = (BY b B).length := by
    rw [tsum_TT (fun _ => 1) hb, sm_const, Nat.mul_one]
  rw [← h]
  obtain ⟨q, hq, rfl⟩ := List.mem_map.mp hc
  unfold tsum
  have : q.2 * 1 ∈ (TT n b B).map (fun q => q.2 * (fun _ => 1) q.1) := List.mem_map.mpr ⟨q, hq, rfl⟩
  have h2 := mem_le_sum this
  rwa [Nat.mul_one] at h2
theorem sm_le {f : Nat → Nat} {c : Nat} : ∀ {B : List Nat}, (∀ a ∈ B, f a ≤ c) → sm f B ≤ B.length * c
  | [], _ => by simp [sm_nil]
  | a :: B, h => by
    have h1 := h a List.mem_cons_self
    have h2 := sm_le (B := B) (fun b hb => h b (List.mem_cons_of_mem _ hb))
    rw [sm_cons, List.length_cons, Nat.add_mul]
    omega
theorem ncy_le {n r : Nat} : ncy n (rwf n r) ≤ n := by
  unfold ncy
  refine Nat.le_trans List.countP_le_length ?_
  have : ∀ m, (lens (rwf n r) m).2.length = m := fun m => by
    induction m with
    | zero => rfl
    | succ m ih => rw [lens, List.length_append, ih]; rfl
  rw [cyl, this]
  exact Nat.le_refl _
/-- MANY for x -/
def mny (n x : Nat) (B : List Nat) : Nat := sm (fun K => x ^ ncy n (rwf n (K / 2))) B / B.length
theorem mny_lt {n x : Nat} {B : List Nat} (hn : n ≤ 6) (hx : x ≤ 9) : sm (fun K => x ^ ncy n (rwf n (K / 2))) B ≤ B.length * 531441 := by
  refine sm_le (fun K _ => ?_)
  have h1 : x ^ ncy n (rwf n (K / 2)) ≤ 9 ^ ncy n (rwf n (K / 2)) := Nat.pow_le_pow_left hx _
  have h2 : 9 ^ ncy n (rwf n (K / 2)) ≤ 9 ^ 6 := Nat.pow_le_pow_right (by decide) (Nat.le_trans ncy_le hn)
  have h3 : (9 : Nat) ^ 6 = 531441 := by decide
  omega
theorem e_classesFor {n x b : Nat} {B : List Nat} {so of_ : Nat → Int32} {ss : Int32} (h2 : 2 ≤ n) (hn : n ≤ 6) (hx : x ≤ 9) (hb : b ≤ 1) (hB : KS B n) (hI : IX n (TT n b B) so of_ ss) : f_X4_classesFor (nI x) so of_ ss (nI (BY b B).length) = some (lN (mny n x (BY b B))) := by
  unfold f_X4_classesFor
  have hl := BY_len (b := b) (B := B)
  have hl2 := hB.2
  have hl3 := IX_len hI.2.2.2.1 hI.2.2.2.2
  have hp : 0 < (BY b B).length := List.length_pos_of_mem (BY_Gp (b := b) hB.1).2.2.1
  have h := e_cf_L (x := x) (by omega) hI (fun c hc => by have := cnt_le hb c hc; omega) (fun l2_1 _ => if nI (BY b B).length ≤ 0 then (some (0)) else ((q_ld l2_1 ((nI (BY b B).length : Int32).toInt64)).bind fun t3 => some (t3))) (TT n b B).length 0 q_fu 0 (by omega) (fu_lt (by omega))
  refine h.trans ?_
  have hm := mny_lt (n := n) (x := x) (B := BY b B) hn hx
  have hmul : (BY b B).length * 531441 ≤ 120 * 531441 := Nat.mul_le_mul_right _ (by omega)
  rw [if_neg (nI_nle hp (by omega)), List.drop_zero, Nat.zero_add, tsum_TT _ hb, nI_l (by omega)]
  have e : sm (fun K => x ^ dsum 6 (typ n (rwf n (K / 2)))) (BY b B) = sm (fun K => x ^ ncy n (rwf n (K / 2))) (BY b B) := by
    refine sm_cong (fun K hK => ?_)
    rw [(chk_facts h2 hn ((BY_Gp hB.1).2.1 K hK)).2.2.2.1]
  rw [e, qe_ld (by omega) (by omega) hp, ob_some, mny]
/-- MANY for as many kinds as there are: how many classes -/
theorem mny_k {n k : Nat} {B : List Nat} (h2 : 2 ≤ n) (hn : n ≤ 6) (hk : 0 < k) (hk8 : k ≤ 8) (hB : Gp n B) : mny n k B = (LQ n k B (k ^ n)).length := by
  have hp : 0 < B.length := List.length_pos_of_mem hB.2.2.1
  rw [mny, classes_by h2 hn hk hk8 hB, Nat.mul_div_cancel_left _ hp, LQ_all]
