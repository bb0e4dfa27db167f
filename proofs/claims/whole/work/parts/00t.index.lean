-- ===== the class's lists of classes, its index =====
def LQ (n k : Nat) (B : List Nat) (i : Nat) : List Nat := ((List.range i).map (pt n k)).filter (fun P => decide (lst n P B = P))
theorem LQ_succ (n k : Nat) (B : List Nat) (i : Nat) : LQ n k B (i + 1) = if lst n (pt n k i) B = pt n k i then LQ n k B i ++ [pt n k i] else LQ n k B i := by
  unfold LQ
  rw [List.range_succ, List.map_append, List.filter_append, List.map_singleton]
  by_cases h : lst n (pt n k i) B = pt n k i
  · rw [if_pos h]
    simp [h]
  · rw [if_neg h]
    simp [h]
theorem LQ_len (n k : Nat) (B : List Nat) (i : Nat) : (LQ n k B i).length ≤ i := by
  unfold LQ
  refine Nat.le_trans (List.length_filter_le _ _) ?_
  rw [List.length_map, List.length_range]
  exact Nat.le_refl _
theorem LQ_all (n k : Nat) (B : List Nat) : (LQ n k B (k ^ n)).length = (XX n k).countP (fun P => decide (lst n P B = P)) := by
  rw [List.countP_eq_length_filter]
  rfl
theorem pt_0 (n k : Nat) : pt n k 0 = 0 := by
  have h : ∀ m, cb 8 (fun _ => 0) m = 0 := fun m => by
    induction m with
    | zero => rfl
    | succ m ih => rw [cb, ih]
  rw [pt, pak_cong (g := fun _ => 0) (fun p _ => by unfold di; rw [Nat.zero_div, Nat.zero_mod]), pak, h, Nat.zero_mul]
theorem pow_4096 {n k : Nat} (hn : n ≤ 6) (hk4 : k ≤ 4) : k ^ n ≤ 4096 := by
  have h1 : k ^ n ≤ 4 ^ n := Nat.pow_le_pow_left hk4 n
  have h2 : 4 ^ n ≤ 4 ^ 6 := Nat.pow_le_pow_right (by decide) hn
  have h3 : (4 : Nat) ^ 6 = 4096 := by decide
  omega
theorem e_find_L {n k b nc : Nat} {B : List Nat} {keys : Nat → Int32} (h2 : 2 ≤ n) (hn : n ≤ 6) (hk : 1 ≤ k) (hk4 : k ≤ 4) (hb : b ≤ 1) (hB : KS B n) (hA : AK keys (srt B)) (hnc : k ^ n ≤ nc) (hnc2 : nc ≤ 4096) (KK : Int32 → Int32 → (Nat → Int32) → Int32 → Option (Nat × (Nat → Int32) × Int32 × Int32)) :
    ∀ d i fu ul, i + d = k ^ n → d < fu → AK ul (LQ n k (BY b B) i) → ∃ ul' l5, AK ul' (LQ n k (BY b B) (k ^ n)) ∧ f_X1_find_L29 (nI b) (nI k) (nI (k ^ n)) nc keys (nI B.length) (nI n) KK fu (nI (pt n k i)) (nI i) ul (nI (LQ n k (BY b B) i).length) = KK l5 (nI (k ^ n)) ul' (nI (LQ n k (BY b B) (k ^ n)).length)
  | d, i, 0, _, _, h, _ => by omega
  | 0, i, fu + 1, ul, hi, _, hul => by
    have h4 := pow_4096 hn hk4
    have e : i = k ^ n := by omega
    subst e
    rw [f_X1_find_L29, if_pos (nI_le (Nat.le_refl _) (by omega))]
    exact ⟨ul, _, hul, rfl⟩
  | d + 1, i, fu + 1, ul, hi, hfu, hul => by
    have h4 := pow_4096 hn hk4
    have hP := pt_Pt (i := i) hn hk (show k ≤ 8 by omega)
    have hLl := LQ_len n k (BY b B) i
    rw [f_X1_find_L29, if_neg (nI_ge (by omega) (by omega)), e_isLeast (by omega) hn (by omega) hP hb hB hA, ob_some, e_nextPainting h2 hn hk hk4 (by omega), ob_some, nI_1, nI_1]
    have hs := LQ_succ n k (BY b B) i
    by_cases h : lst n (pt n k i) (BY b B) = pt n k i
    · rw [if_pos h] at hs ⊢
      rw [if_neg (show ¬ (1 : Int32) = 0 by decide), qe_wt _ _ (by omega) (by omega), ob_some]
      have hul2 := AK_app (x := pt n k i) hul
      rw [← hs] at hul2
      have hlen : (LQ n k (BY b B) i).length + 1 = (LQ n k (BY b B) (i + 1)).length := by rw [hs, List.length_append, List.length_singleton]
      obtain ⟨ul', l5, e1, e2⟩ := e_find_L h2 hn hk hk4 hb hB hA hnc hnc2 KK d (i + 1) fu _ (by omega) (by omega) hul2
      rw [hlen, ob_some]
      exact ⟨ul', l5, e1, e2⟩
    · rw [if_neg h] at hs ⊢
      rw [if_pos rfl]
      rw [← hs] at hul ⊢
      exact e_find_L h2 hn hk hk4 hb hB hA hnc hnc2 KK d (i + 1) fu _ (by omega) (by omega) hul
theorem qe_nw {N : Nat} (h : N ≤ 4096) : q_nw (nI N) = some N := by
  unfold q_nw
  rw [nI_clamp (by omega), if_neg]
  rintro (z | z)
  · exact nI_pos (by omega) z
  · omega
theorem e_find {n k b nc : Nat} {B : List Nat} {keys ul : Nat → Int32} {hm kn : Int32} (h2 : 2 ≤ n) (hn : n ≤ 6) (hk : 1 ≤ k) (hk4 : k ≤ 4) (hb : b ≤ 1) (hB : KS B n) (hA : AK keys (srt B)) (hnc2 : nc ≤ 4096) :
    ∃ nc' ul', nc' ≤ 4096 ∧ AK ul' (LQ n k (BY b B) (k ^ n)) ∧ (LQ n k (BY b B) (k ^ n)).length ≤ nc' ∧ f_X1_find (nI b) (nI k) (nI (k ^ n)) nc ul hm kn keys (nI B.length) (nI n) = some (nc', ul', nI (LQ n k (BY b B) (k ^ n)).length, 1) := by
  have h4 := pow_4096 hn hk4
  have hLl := LQ_len n k (BY b B) (k ^ n)
  have e0 : LQ n k (BY b B) 0 = [] := rfl
  unfold f_X1_find
  rw [show Int32.ofNat nc = nI nc from rfl]
  by_cases hc : k ^ n ≤ nc
  · rw [if_pos (nI_le hc (by omega))]
    obtain ⟨ul', l5, e1, e2⟩ := e_find_L h2 hn hk hk4 hb hB hA hc hnc2 (fun _ _ u_leasts_2 u_howMany_2 => some (nc, u_leasts_2, u_howMany_2, 1)) (k ^ n) 0 q_fu ul (by omega) (fu_lt (by omega)) (fun j hj => by rw [e0] at hj; cases hj)
    rw [pt_0] at e2
    exact ⟨nc, ul', hnc2, e1, by omega, e2⟩
  · rw [if_neg (nI_ge (by omega) (by omega)), qe_nw h4, ob_some]
    obtain ⟨ul', l5, e1, e2⟩ := e_find_L h2 hn hk hk4 hb hB hA (Nat.le_refl _) h4 (fun _ _ u_leasts_2 u_howMany_2 => some (k ^ n, u_leasts_2, u_howMany_2, 1)) (k ^ n) 0 q_fu (fun _ => 0) (by omega) (fu_lt (by omega)) (fun j hj => by rw [e0] at hj; cases hj)
    rw [pt_0] at e2
    exact ⟨k ^ n, ul', h4, e1, hLl, e2⟩
-- the index
def tadd (t : Nat) : List (Nat × Nat) → List (Nat × Nat)
  | [] => [(t, 1)]
  | (s, c) :: l => if s < t then (s, c) :: tadd t l else if s = t then (s, c + 1) :: l else (t, 1) :: (s, c) :: l
def TLs (ts : List Nat) : List (Nat × Nat) := ts.foldl (fun T t => tadd t T) []
def tsum (g : Nat → Nat) (T : List (Nat × Nat)) : Nat := (T.map (fun q => q.2 * g q.1)).sum
theorem tsum_tadd (g : Nat → Nat) (t : Nat) : ∀ T, tsum g (tadd t T) = tsum g T + g t
  | [] => by simp [tsum, tadd]
  | (s, c) :: l => by
    have ih := tsum_tadd g t l
    unfold tsum at ih ⊢
    rw [tadd]
    split
    · rw [List.map_cons, List.sum_cons, ih, List.map_cons, List.sum_cons]
      omega
    · split
      · rename_i h
        subst h
        rw [List.map_cons, List.sum_cons, List.map_cons, List.sum_cons]
        show (c + 1) * g s + _ = c * g s + _ + g s
        rw [Nat.add_mul]
        omega
      · rw [List.map_cons, List.sum_cons]
        show 1 * g t + _ = _ + g t
        omega
theorem tsum_TLs (g : Nat → Nat) : ∀ (ts : List Nat) (T : List (Nat × Nat)), tsum g (ts.foldl (fun T t => tadd t T) T) = tsum g T + sm g ts
  | [], T => by simp [sm_nil]
  | t :: ts, T => by
    rw [List.foldl_cons, tsum_TLs g ts, tsum_tadd, sm_cons]
    omega
theorem tadd_mem {t : Nat} {q : Nat × Nat} : ∀ {T}, q ∈ tadd t T → q.1 = t ∨ ∃ r ∈ T, r.1 = q.1
  | [], h => by
    rw [tadd, List.mem_singleton] at h
    exact Or.inl (by rw [h])
  | (s, c) :: l, h => by
    rw [tadd] at h
    split at h
    · rcases List.mem_cons.mp h with rfl | h
      · exact Or.inr ⟨_, List.mem_cons_self, rfl⟩
      · rcases tadd_mem h with h | ⟨r, hr, h⟩
        · exact Or.inl h
        · exact Or.inr ⟨r, List.mem_cons_of_mem _ hr, h⟩
    · split at h
      · rcases List.mem_cons.mp h with rfl | h
        · exact Or.inr ⟨_, List.mem_cons_self, rfl⟩
        · exact Or.inr ⟨q, List.mem_cons_of_mem _ h, rfl⟩
      · rcases List.mem_cons.mp h with rfl | h
        · exact Or.inl rfl
        · exact Or.inr ⟨q, h, rfl⟩
/-- types in order -/
def TO (T : List (Nat × Nat)) : Prop := T.Pairwise (fun a b => a.1 < b.1)
theorem tadd_TO {t : Nat} : ∀ {T}, TO T → TO (tadd t T)
  | [], _ => by unfold TO; simp [tadd]
  | (s, c) :: l, h => by
    unfold TO at h ⊢
    obtain ⟨h1, h2⟩ := List.pairwise_cons.mp h
    rw [tadd]
    split
    · rename_i hs
      refine List.pairwise_cons.mpr ⟨fun q hq => ?_, tadd_TO h2⟩
      rcases tadd_mem hq with e | ⟨r, hr, e⟩
      · rw [e]; exact hs
      · rw [← e]; exact h1 r hr
    · split
      · exact List.pairwise_cons.mpr ⟨fun q hq => h1 q hq, h2⟩
      · rename_i h3 h4
        refine List.pairwise_cons.mpr ⟨fun q hq => ?_, h⟩
        rcases List.mem_cons.mp hq with rfl | hq
        · show t < s; omega
        · have := h1 q hq
          have : s < q.1 := this
          show t < q.1; omega
def fsts (T : List (Nat × Nat)) : List Nat := T.map (fun q => q.1)
def snds (T : List (Nat × Nat)) : List Nat := T.map (fun q => q.2)
theorem fsts_len (T : List (Nat × Nat)) : (fsts T).length = T.length := by simp [fsts]
theorem snds_len (T : List (Nat × Nat)) : (snds T).length = T.length := by simp [snds]
theorem TO_SI {T : List (Nat × Nat)} (h : TO T) : SI (fsts T) := by
  intro i j hij hj
  have hl := fsts_len T
  have h1 := List.pairwise_iff_getElem.mp h i j (by omega) (by omega) hij
  unfold fsts
  rw [List.getD_eq_getElem?_getD, List.getD_eq_getElem?_getD, List.getElem?_map, List.getElem?_map, List.getElem?_eq_getElem (by omega), List.getElem?_eq_getElem (by omega)]
  exact h1
theorem TO_nodup {T : List (Nat × Nat)} (h : TO T) : (fsts T).Nodup := by
  unfold fsts
  rw [List.Nodup, List.pairwise_map]
  exact h.imp (fun h => Nat.ne_of_lt h)
/-- where a type comes in -/
theorem tadd_at {t : Nat} : ∀ {T : List (Nat × Nat)} {a : Nat}, TO T → a ≤ T.length → (∀ j, j < a → (fsts T).getD j 0 < t) → (∀ j, a ≤ j → j < T.length → t ≤ (fsts T).getD j 0) →
    (a < T.length ∧ (fsts T).getD a 0 = t ∧ fsts (tadd t T) = fsts T ∧ snds (tadd t T) = (snds T).set a ((snds T).getD a 0 + 1)) ∨ (¬ (a < T.length ∧ (fsts T).getD a 0 = t) ∧ fsts (tadd t T) = put (fsts T) a t ∧ snds (tadd t T) = put (snds T) a 1)
  | [], a, _, ha, _, _ => by
    have : a = 0 := by simpa using ha
    subst this
    exact Or.inr ⟨by simp, rfl, rfl⟩
  | (s, c) :: l, 0, hT, ha, h1, h2 => by
    have h3 := h2 0 (Nat.le_refl _) (by simp)
    have h3 : t ≤ s := h3
    rw [tadd, if_neg (by omega)]
    by_cases e : s = t
    · rw [if_pos e]
      exact Or.inl ⟨by simp, e, rfl, rfl⟩
    · rw [if_neg e]
      exact Or.inr ⟨fun q => e q.2, rfl, rfl⟩
  | (s, c) :: l, a + 1, hT, ha, h1, h2 => by
    have h3 := h1 0 (by omega)
    have h3 : s < t := h3
    have hT2 := (List.pairwise_cons.mp hT).2
    rw [tadd, if_pos h3]
    rcases tadd_at (a := a) hT2 (by simpa using ha) (fun j hj => h1 (j + 1) (by omega)) (fun j hj hjl => h2 (j + 1) (by omega) (by simpa using hjl)) with ⟨q1, q2, q3, q4⟩ | ⟨q1, q2, q3⟩
    · refine Or.inl ⟨by simpa using q1, q2, ?_, ?_⟩
      · show s :: fsts (tadd t l) = s :: fsts l
        rw [q3]
      · show c :: snds (tadd t l) = c :: (snds l).set a ((snds l).getD a 0 + 1)
        rw [q4]
    · refine Or.inr ⟨fun q => q1 ⟨by simpa using q.1, q.2⟩, ?_, ?_⟩
      · show s :: fsts (tadd t l) = s :: put (fsts l) a t
        rw [q2]
      · show c :: snds (tadd t l) = c :: put (snds l) a 1
        rw [q3]
/-- the class's index, as it stands -/
def IX (n : Nat) (T : List (Nat × Nat)) (sort often : Nat → Int32) (sorts : Int32) : Prop := AK sort (fsts T) ∧ AK often (snds T) ∧ sorts = nI T.length ∧ TO T ∧ ∀ q ∈ T, q.1 ∈ tyl n
theorem tyl_len (n : Nat) : (tyl n).length ≤ 11 := by unfold tyl; split <;> decide
theorem tyl_lt {n t : Nat} (h : t ∈ tyl n) : t < 1000000 := by
  have h2 : ∀ t ∈ tyl n, t < 1000000 := by unfold tyl; split <;> decide
  exact h2 t h
theorem IX_len {n : Nat} {T : List (Nat × Nat)} (hT : TO T) (hm : ∀ q ∈ T, q.1 ∈ tyl n) : T.length ≤ 11 := by
  have h := List.Nodup.length_le_of_subset (TO_nodup hT) (l₂ := tyl n) (fun x hx => by
    obtain ⟨q, hq, rfl⟩ := List.mem_map.mp hx
    exact hm q hq)
  rw [fsts_len] at h
  exact Nat.le_trans h (tyl_len n)
theorem AK_set {a : Nat → Int32} {L : List Nat} {i x : Nat} (hA : AK a L) (hi : i < L.length) : AK (upd a i (nI x)) (L.set i x) := by
  intro j hj
  rw [List.length_set] at hj
  rw [List.getD_eq_getElem?_getD, List.getElem?_set]
  by_cases h : i = j
  · subst h
    rw [upd_at, if_pos rfl, if_pos hj]
    rfl
  · rw [upd_ne _ (Ne.symm h), if_neg h, hA j hj, List.getD_eq_getElem?_getD]
theorem e_add_L {t : Nat} {sort : Nat → Int32} {S : List Nat} (hA : AK sort S) (hS : SI S) (hl : S.length ≤ 11) (ht : t < 2 ^ 31) (hb : ∀ x ∈ S, x < 2 ^ 31) (K : Int32 → Option ((Nat → Int32) × (Nat → Int32) × Int32)) :
    ∀ d i fu, i + d = S.length → d < fu → (∀ j, j < i → S.getD j 0 < t) → ∃ a, a ≤ S.length ∧ (∀ j, j < a → S.getD j 0 < t) ∧ (∀ j, a ≤ j → j < S.length → t ≤ S.getD j 0) ∧ f_X4_add_L2 (nI t) sort (nI S.length) K fu (nI i) = K (nI a)
  | d, i, 0, _, h, _ => by omega
  | 0, i, fu + 1, hi, _, h1 => by
    rw [f_X4_add_L2, if_pos (nI_le (by omega) (by omega))]
    exact ⟨i, by omega, h1, fun j hj hjl => by omega, rfl⟩
  | d + 1, i, fu + 1, hi, hfu, h1 => by
    have hb2 := hb _ (getD_mem (show i < S.length by omega))
    rw [f_X4_add_L2, if_neg (nI_ge (by omega) (by omega)), qe_rd _ (by omega) (by decide), ob_some, hA i (by omega)]
    by_cases hc : t ≤ S.getD i 0
    · rw [if_pos (nI_le hc hb2)]
      refine ⟨i, by omega, h1, fun j hj hjl => ?_, rfl⟩
      rcases Nat.lt_or_ge i j with h | h
      · have := hS i j h hjl
        omega
      · rw [show j = i by omega]; exact hc
    · rw [if_neg (fun z => hc ((nI_leI ht hb2).mp z)), nI_1]
      refine e_add_L hA hS hl ht hb K d (i + 1) fu (by omega) (by omega) (fun j hj => ?_)
      rcases Nat.lt_succ_iff_lt_or_eq.mp hj with hj | rfl
      · exact h1 j hj
      · omega
theorem e_add {n t : Nat} {T : List (Nat × Nat)} {sort often : Nat → Int32} {sorts : Int32} (h : IX n T sort often sorts) (ht : t ∈ tyl n) : ∃ sort' often' sorts', f_X4_add (nI t) sort often sorts = some (sort', often', sorts') ∧ IX n (tadd t T) sort' often' sorts' := by
  obtain ⟨hA, hC, rfl, hT, hm⟩ := h
  have hS := TO_SI hT
  have hlen := IX_len hT hm
  have hl := fsts_len T
  have hl2 := snds_len T
  have hT2 : TO (tadd t T) := tadd_TO hT
  have hm2 : ∀ q ∈ tadd t T, q.1 ∈ tyl n := fun q hq => by
    rcases tadd_mem hq with e | ⟨r, hr, e⟩
    · rw [e]; exact ht
    · rw [← e]; exact hm r hr
  have ht2 := tyl_lt ht
  have hbS : ∀ x ∈ fsts T, x < 2 ^ 31 := fun x hx => by
    obtain ⟨q, hq, rfl⟩ := List.mem_map.mp hx
    have := tyl_lt (hm q hq)
    show q.1 < _
    omega
  unfold f_X4_add
  obtain ⟨a, ha, h1, h2, e⟩ := e_add_L (t := t) hA hS (by omega) (by omega) hbS (fun l2_1 => if nI T.length ≤ l2_1 then (if 11 ≤ nI T.length then (some (sort, often, nI T.length)) else ((q_cp sort sort 11 11 l2_1 (l2_1 + 1) (nI T.length - l2_1)).bind fun t4 => (q_cp often often 11 11 l2_1 (l2_1 + 1) (nI T.length - l2_1)).bind fun t5 => (q_wt t4 11 l2_1 (nI t)).bind fun t6 => (q_wt t5 11 l2_1 1).bind fun t7 => some (t6, t7, nI T.length + 1))) else ((q_rd sort 11 l2_1).bind fun t8 => if t8 = (nI t) then ((q_rd often 11 l2_1).bind fun t15 => (q_wt often 11 l2_1 (t15 + 1)).bind fun t16 => some (sort, t16, nI T.length)) else (if 11 ≤ nI T.length then (some (sort, often, nI T.length)) else ((q_cp sort sort 11 11 l2_1 (l2_1 + 1) (nI T.length - l2_1)).bind fun t11 => (q_cp often often 11 11 l2_1 (l2_1 + 1) (nI T.length - l2_1)).bind fun t12 => (q_wt t11 11 l2_1 (nI t)).bind fun t13 => (q_wt t12 11 l2_1 1).bind fun t14 => some (t13, t14, nI T.length + 1))))) (fsts T).length 0 q_fu (by omega) (fu_lt (by omega)) (fun j hj => by omega)
  rw [hl] at e ha
  rw [show (0 : Int32) = nI 0 from rfl, e]
  have hcase := tadd_at (t := t) hT ha h1 (fun j hj hjl => h2 j hj (by omega))
  rcases hcase with ⟨q1, q2, q3, q4⟩ | ⟨q1, q2, q3⟩
  · rw [if_neg (nI_ge (by omega) (by omega)), qe_rd _ (by omega) (by decide), ob_some, hA a (by omega), q2, if_pos rfl, qe_rd _ (by omega) (by decide), ob_some, hC a (by omega), nI_1, qe_wt _ _ (by omega) (by decide), ob_some]
    refine ⟨_, _, _, rfl, by rw [q3]; exact hA, ?_, ?_, hT2, hm2⟩
    · rw [q4]
      exact AK_set hC (by omega)
    · have := congrArg List.length q3
      rw [fsts_len, fsts_len] at this
      rw [this]
  · have hlen2 : T.length < 11 := by
      have h3 := IX_len hT2 hm2
      have := congrArg List.length q2
      rw [fsts_len, put_len, hl] at this
      omega
    have hins : ∃ sort' often' sorts', ((q_cp sort sort 11 11 (nI a) (nI a + 1) (nI T.length - nI a)).bind fun t4 => (q_cp often often 11 11 (nI a) (nI a + 1) (nI T.length - nI a)).bind fun t5 => (q_wt t4 11 (nI a) (nI t)).bind fun t6 => (q_wt t5 11 (nI a) 1).bind fun t7 => some (t6, t7, nI T.length + 1)) = some (sort', often', sorts') ∧ IX n (tadd t T) sort' often' sorts' := by
      rw [nI_1, nI_sub ha, qe_cp _ _ (by omega) (by omega) (by decide) (by decide), ob_some, qe_cp _ _ (by omega) (by omega) (by decide) (by decide), ob_some, qe_wt _ _ (by omega) (by decide), ob_some, qe_wt _ _ (by omega) (by decide), ob_some, nI_1]
      refine ⟨_, _, _, rfl, ?_, ?_, ?_, hT2, hm2⟩
      · rw [q2]
        have := AK_put (key := t) hA (by omega : a ≤ (fsts T).length)
        rwa [hl] at this
      · rw [q3]
        have := AK_put (key := 1) hC (by omega : a ≤ (snds T).length)
        rwa [hl2] at this
      · have := congrArg List.length q2
        rw [fsts_len, put_len, hl] at this
        rw [this]
    have e11 : ¬ (11 : Int32) ≤ nI T.length := by rw [li_11]; exact nI_ge hlen2 (by decide)
    by_cases hal : T.length ≤ a
    · rw [if_pos (nI_le hal (by omega)), if_neg e11]
      exact hins
    · rw [if_neg (nI_ge (by omega) (by omega)), qe_rd _ (by omega) (by decide), ob_some, hA a (by omega), if_neg, if_neg e11]
      · exact hins
      · intro z
        have hbb := hbS _ (getD_mem (show a < (fsts T).length by omega))
        exact q1 ⟨by omega, nI_inj hbb (by omega) z⟩
