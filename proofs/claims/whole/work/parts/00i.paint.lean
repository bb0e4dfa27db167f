-- ===== all paintings in order; how many stay as they are =====
def di (k m i p : Nat) : Nat := i / k ^ (m - 1 - p) % k
theorem di_lt {k m i p : Nat} (hk : 0 < k) : di k m i p < k := Nat.mod_lt _ hk
theorem di_succ {k m j d p : Nat} (hd : d < k) (hp : p < m) : di k (m + 1) (j * k + d) p = di k m j p := by
  have e : m + 1 - 1 - p = 1 + (m - 1 - p) := by omega
  rw [di, di, e, Nat.pow_add, ← Nat.div_div_eq_div_mul, Nat.pow_one, Nat.mul_comm, Nat.mul_add_div (by omega), Nat.div_eq_of_lt hd, Nat.add_zero]
theorem di_last {k m j d : Nat} (hd : d < k) : di k (m + 1) (j * k + d) m = d := by
  rw [di, show m + 1 - 1 - m = 0 by omega, Nat.pow_zero, Nat.div_one, Nat.mul_comm, Nat.mul_add_mod, Nat.mod_eq_of_lt hd]
theorem cb_di {k : Nat} (hk : 0 < k) : ∀ {m i : Nat}, i < k ^ m → cb k (di k m i) m = i
  | 0, i, h => by simp at h; subst h; rfl
  | m + 1, i, h => by
    have hd := Nat.mod_lt i hk
    have hi : i = i / k * k + i % k := by rw [Nat.mul_comm]; exact (Nat.div_add_mod i k).symm
    have hj : i / k < k ^ m := by
      rw [Nat.div_lt_iff_lt_mul hk]
      rwa [Nat.pow_succ] at h
    generalize i / k = j at hi hj
    generalize i % k = d at hi hd
    subst hi
    rw [cb, cb_cong (g := di k m j) (fun p hp => di_succ hd hp), cb_di hk hj, di_last hd]
def pt (n k i : Nat) : Nat := pak n (di k n i)
def idx (n k P : Nat) : Nat := cb k (dg P) n
theorem pt_dg {n k i p : Nat} (hn : n ≤ 6) (hk : 0 < k) (hk8 : k ≤ 8) (hp : p < n) : dg (pt n k i) p = di k n i p :=
  dg_pak hn (fun p _ => Nat.lt_of_lt_of_le (di_lt hk) hk8) hp
theorem pt_Pt {n k i : Nat} (hn : n ≤ 6) (hk : 0 < k) (hk8 : k ≤ 8) : Pt n k (pt n k i) := Pt_pak hn hk8 (fun p _ => di_lt hk)
theorem idx_pt {n k i : Nat} (hn : n ≤ 6) (hk : 0 < k) (hk8 : k ≤ 8) (hi : i < k ^ n) : idx n k (pt n k i) = i := by
  rw [idx, cb_cong (g := di k n i) (fun p hp => pt_dg hn hk hk8 hp), cb_di hk hi]
theorem idx_lt {n k P : Nat} (hP : Pt n k P) : idx n k P < k ^ n := cb_pow (fun p hp => hP.2.1 p hp)
theorem idx_inj {n k P Q : Nat} (hP : Pt n k P) (hQ : Pt n k Q) (h : idx n k P = idx n k Q) : P = Q :=
  hP.ext hQ (fun p hp => (cb_eq (fun p hp => hP.2.1 p hp) (fun p hp => hQ.2.1 p hp)).mp h p hp)
theorem pt_idx {n k P : Nat} (hn : n ≤ 6) (hk : 0 < k) (hk8 : k ≤ 8) (hP : Pt n k P) : pt n k (idx n k P) = P :=
  idx_inj (pt_Pt hn hk hk8) hP (idx_pt hn hk hk8 (idx_lt hP))
/-- the order of paintings is that of the numbers that tell them, in any base -/
theorem Pt_ord {n k b P Q : Nat} (hn : n ≤ 6) (hk8 : k ≤ 8) (hb : k ≤ b) (hP : Pt n k P) (hQ : Pt n k Q) : P < Q ↔ cb b (dg P) n < cb b (dg Q) n := by
  rw [← hP.eta hn, ← hQ.eta hn, pak_ord, hP.eta hn, hQ.eta hn]
  exact cb_ord (fun p hp => ⟨dg_lt _ _, dg_lt _ _⟩) (fun p hp => ⟨Nat.lt_of_lt_of_le (hP.2.1 p hp) hb, Nat.lt_of_lt_of_le (hQ.2.1 p hp) hb⟩)
theorem idx_ord {n k P Q : Nat} (hn : n ≤ 6) (hk8 : k ≤ 8) (hP : Pt n k P) (hQ : Pt n k Q) : P < Q ↔ idx n k P < idx n k Q := Pt_ord hn hk8 (Nat.le_refl _) hP hQ
def XX (n k : Nat) : List Nat := (List.range (k ^ n)).map (pt n k)
theorem XX_mem {n k P : Nat} (hn : n ≤ 6) (hk : 0 < k) (hk8 : k ≤ 8) : P ∈ XX n k ↔ Pt n k P := by
  constructor
  · intro h
    obtain ⟨i, -, rfl⟩ := List.mem_map.mp h
    exact pt_Pt hn hk hk8
  · intro h
    exact List.mem_map.mpr ⟨idx n k P, List.mem_range.mpr (idx_lt h), pt_idx hn hk hk8 h⟩
theorem XX_nodup {n k : Nat} (hn : n ≤ 6) (hk : 0 < k) (hk8 : k ≤ 8) : (XX n k).Nodup := by
  refine nd_map List.nodup_range (fun x hx y hy e => ?_)
  rw [← idx_pt hn hk hk8 (List.mem_range.mp hx), e, idx_pt hn hk hk8 (List.mem_range.mp hy)]
-- counting by two digits
theorem cnt_range_succ (f : Nat → Bool) (n : Nat) : (List.range (n + 1)).countP f = (List.range n).countP f + (if f n then 1 else 0) := by
  rw [List.range_succ, List.countP_append, List.countP_singleton]
theorem cnt_shift (f : Nat → Bool) (a : Nat) : ∀ k, (List.range (a + k)).countP f = (List.range a).countP f + (List.range k).countP (fun d => f (a + d))
  | 0 => by simp
  | k + 1 => by
    rw [← Nat.add_assoc, cnt_range_succ, cnt_range_succ, cnt_shift f a k]
    omega
theorem cnt_mul (f : Nat → Bool) (k : Nat) : ∀ a, (List.range (a * k)).countP f = sm (fun j => (List.range k).countP (fun d => f (j * k + d))) (List.range a)
  | 0 => by simp [sm_nil]
  | a + 1 => by
    rw [Nat.add_mul, Nat.one_mul, cnt_shift, cnt_mul f k a, List.range_succ]
    simp only [sm, List.map_append, List.sum_append, List.map_cons, List.map_nil, List.sum_cons, List.sum_nil, Nat.add_zero]
theorem cnt_one {k v : Nat} (h : v < k) : (List.range k).countP (fun d => decide (d = v)) = 1 := by
  have e : (fun d : Nat => decide (d = v)) = (fun d => d == v) := by funext d; rw [Bool.eq_iff_iff]; simp
  rw [e]
  show List.count v (List.range k) = 1
  rw [List.Nodup.count List.nodup_range, if_pos (List.mem_range.mpr h)]
theorem cnt_all {f : Nat → Bool} {B : List Nat} (h : ∀ a ∈ B, f a = true) : B.countP f = B.length := List.countP_eq_length.mpr h
theorem cnt_none {f : Nat → Bool} {B : List Nat} (h : ∀ a ∈ B, f a = false) : B.countP f = 0 := List.countP_eq_zero.mpr (fun a ha => by rw [h a ha]; decide)
/-- how many have at each place what they have at a place not behind it that stands for it -/
theorem fixes {k : Nat} {rp : Nat → Nat} (hk : 0 < k) (h1 : ∀ p, rp p ≤ p) : ∀ m, (List.range (k ^ m)).countP (fun i => decide (∀ p, p < m → di k m i p = di k m i (rp p))) = k ^ ((List.range m).countP (fun p => decide (rp p = p)))
  | 0 => by
    rw [show List.range (k ^ 0) = [0] from rfl]
    simp
  | m + 1 => by
    rw [Nat.pow_succ, cnt_mul]
    have hs : ∀ j, (List.range k).countP (fun d => decide (∀ p, p < m + 1 → di k (m + 1) (j * k + d) p = di k (m + 1) (j * k + d) (rp p))) = (if decide (∀ p, p < m → di k m j p = di k m j (rp p)) then 1 else 0) * (if rp m = m then k else 1) := by
      intro j
      have hd : ∀ d, d < k → ((∀ p, p < m + 1 → di k (m + 1) (j * k + d) p = di k (m + 1) (j * k + d) (rp p)) ↔ (∀ p, p < m → di k m j p = di k m j (rp p)) ∧ (rp m = m ∨ d = di k m j (rp m))) := by
        intro d hd
        constructor
        · intro h
          refine ⟨fun p hp => ?_, ?_⟩
          · have := h p (by omega)
            have h2 := h1 p
            rwa [di_succ hd hp, di_succ hd (by omega)] at this
          · by_cases e : rp m = m
            · exact Or.inl e
            · have := h m (by omega)
              have h2 := h1 m
              rw [di_last hd, di_succ hd (by omega)] at this
              exact Or.inr this
        · rintro ⟨h, h3⟩ p hp
          rcases Nat.lt_succ_iff_lt_or_eq.mp hp with hp | rfl
          · have h2 := h1 p
            rw [di_succ hd hp, di_succ hd (by omega)]
            exact h p hp
          · rcases h3 with e | e
            · rw [e]
            · have h2 := h1 p
              by_cases e2 : rp p = p
              · rw [e2]
              · rw [di_last hd, di_succ hd (by omega), e]
      rw [List.countP_congr (q := fun d => decide ((∀ p, p < m → di k m j p = di k m j (rp p)) ∧ (rp m = m ∨ d = di k m j (rp m)))) (fun d hd2 => by rw [decide_eq_true_eq, decide_eq_true_eq]; exact hd d (List.mem_range.mp hd2))]
      by_cases h : ∀ p, p < m → di k m j p = di k m j (rp p)
      · rw [if_pos (decide_eq_true h)]
        by_cases e : rp m = m
        · rw [if_pos e, cnt_all (fun d _ => decide_eq_true ⟨h, Or.inl e⟩), List.length_range, Nat.one_mul]
        · rw [if_neg e, List.countP_congr (q := fun d => decide (d = di k m j (rp m))) (fun d _ => by rw [decide_eq_true_eq, decide_eq_true_eq]; exact ⟨fun q => q.2.resolve_left e, fun q => ⟨h, Or.inr q⟩⟩), cnt_one (di_lt hk)]
      · rw [if_neg (by rw [decide_eq_false h]; decide), cnt_none (fun d _ => decide_eq_false (fun q => h q.1)), Nat.zero_mul]
    rw [sm_cong (fun j _ => hs j)]
    have hmul : ∀ (c : Nat) (f : Nat → Nat) (B : List Nat), sm (fun j => f j * c) B = sm f B * c := by
      intro c f B
      induction B with
      | nil => simp [sm_nil]
      | cons a B ih => rw [sm_cons, sm_cons, ih, Nat.add_mul]
    rw [hmul, ← sm_countP, fixes hk h1 m, cnt_range_succ, Nat.pow_add]
    by_cases e : rp m = m
    · simp [e]
    · simp [e]
