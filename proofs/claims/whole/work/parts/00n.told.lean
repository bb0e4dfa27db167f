-- ===== digits told by any number =====
theorem neg_split {x : Int32} (h : x < 0) : ∃ y : Nat, 0 < y ∧ y ≤ 2147483648 ∧ x.toInt = -(y : Int) := by
  rw [fa_lt] at h
  have e0 : (0 : Int32).toInt = 0 := by decide
  have hr := fb_rng x
  exact ⟨x.toInt.natAbs, by omega, by omega, by omega⟩
theorem neg_div {x : Int32} {y : Nat} (hy : y ≤ 2147483648) (h : x.toInt = -(y : Int)) : (x / 10).toInt = -((y / 10 : Nat) : Int) := by
  have e0 : (10 : Int32).toInt = 10 := by decide
  have hq : y / 10 ≤ y := Nat.div_le_self _ _
  rw [Int32.toInt_div, e0, h, Int.neg_tdiv]
  show (-((y / 10 : Nat) : Int)).bmod _ = _
  exact fb_bmod (by omega) (by omega)
theorem neg_rem {x : Int32} {y : Nat} (hy : y ≤ 2147483648) (h : x.toInt = -(y : Int)) : (x - x / 10 * 10).toInt = -((y % 10 : Nat) : Int) := by
  have e0 : (10 : Int32).toInt = 10 := by decide
  have h1 := neg_div hy h
  have hq := Nat.div_add_mod y 10
  have h2 : (x / 10 * 10).toInt = -((y / 10 : Nat) : Int) * 10 := by
    rw [fb_mulI (by rw [h1, e0]; omega) (by rw [h1, e0]; omega), h1, e0]
  rw [fb_subI (by rw [h, h2]; omega) (by rw [h, h2]; omega), h, h2]
  omega
theorem qe_rm10 (x : Int32) : q_rm x 10 = some (x - x / 10 * 10) := by unfold q_rm; rw [if_neg (by decide)]
theorem qe_dv10 (x : Int32) : q_dv x 10 = some (x / 10) := by unfold q_dv; rw [if_neg (by decide)]
theorem nat_of_nonneg {x : Int32} (h : ¬ x < 0) : ∃ v, v < 2 ^ 31 ∧ x = nI v := nI_of h
/-- a row of digits told by an int -/
def DI (n lo m : Nat) (x : Int32) (v : Nat) : Prop := v < 2 ^ 31 ∧ x = nI v ∧ Dg n lo m v
theorem Dg_at {n lo m v p : Nat} (h : Dg n lo m v) (hp : p < n) : lo ≤ v / 10 ^ (n - 1 - p) % 10 ∧ v / 10 ^ (n - 1 - p) % 10 < lo + m := h.2 p hp
theorem e_packed {n lo m v : Nat} {x : Int32} (hn : n ≤ 6) (hlo : lo ≤ 1) (hm : m ≤ 6) (h : DI n lo m x v) : f_X2_packed x (nI n) (nI lo) (nI m) = some (nI (pak n (fun p => di 10 n v p - lo))) := by
  obtain ⟨hv, rfl, hd⟩ := h
  unfold f_X2_packed
  have h1 := e_packed_L hn hlo hm hv (fun l4_1 l5_1 _ => if l4_1 = 0 then (some (l5_1)) else (some ((-1)))) n q_fu 0 (Nat.le_refl _) (fu_lt (by omega)) (Nat.pow_pos (by decide)) (fun p hp => Dg_at hd hp)
  rw [Nat.sub_self, Nat.pow_zero, Nat.div_one, Nat.zero_add, Nat.div_eq_of_lt hd.1] at h1
  exact h1
theorem sub_neg_of {a lo : Nat} (hlo : lo ≤ 1) (h : a < lo) : nI a - nI lo < 0 := by
  have h0 : a = 0 := by omega
  have h1 : lo = 1 := by omega
  subst h0; subst h1; decide
theorem e_packed_negL {n lo m : Nat} (hn : n ≤ 6) (hlo : lo ≤ 1) (K : Int32 → Int32 → Int32 → Option Int32) (hK : ∀ a b c : Int32, a < 0 → K a b c = some (-1)) : ∀ j fu x M, j ≤ n → j < fu → x < 0 → f_X2_packed_L11 (nI lo) (nI m) K fu x M (nI j - 1) = some (-1)
  | j, 0, _, _, _, h, _ => by omega
  | 0, fu + 1, x, M, _, _, hx => by
    rw [f_X2_packed_L11, if_pos nI_dneg]
    exact hK _ _ _ hx
  | j + 1, fu + 1, x, M, hj, hfu, hx => by
    obtain ⟨y, hy0, hy, e⟩ := neg_split hx
    have e0 : (0 : Int32).toInt = 0 := by decide
    have e1 : (1 : Int32).toInt = 1 := by decide
    have hr := neg_rem hy e
    have hq := neg_div hy e
    rw [f_X2_packed_L11, nI_dec (by omega), Nat.add_sub_cancel, if_neg (nI_pos (by omega)), qe_rm10, ob_some]
    by_cases hc : x - x / 10 * 10 - nI lo < 0
    · rw [if_pos hc]
    · rw [if_neg hc]
      by_cases hl : lo = 1
      · exfalso
        apply hc
        rw [hl, fa_lt, fb_subI (by rw [hr]; show _ ≤ _ - (1 : Int32).toInt; rw [e1]; omega) (by rw [hr]; show _ - (1 : Int32).toInt < _; rw [e1]; omega), hr]
        show _ - (1 : Int32).toInt < _
        rw [e1, e0]
        omega
      · have hl0 : lo = 0 := by omega
        have hz : x - x / 10 * 10 - nI lo = x - x / 10 * 10 := by rw [hl0]; exact Int32.sub_zero _
        rw [hz] at hc ⊢
        rw [fa_lt, hr, e0] at hc
        have hx2 : x / 10 < 0 := by
          rw [fa_lt, hq, e0]
          have := Nat.div_add_mod y 10
          omega
        split
        · show (some _ : Option Int32).bind _ = _
          rw [ob_some, qe_dv10, ob_some, nI_m1']
          exact e_packed_negL hn hlo K hK j fu _ _ (by omega) (by omega) hx2
        · rfl
theorem e_packed_badL {n lo m v : Nat} (hn : n ≤ 6) (hlo : lo ≤ 1) (hm : m ≤ 6) (hv : v < 2 ^ 31) (K : Int32 → Int32 → Int32 → Option Int32) : ∀ j fu M, j ≤ n → j < fu →
    (¬ ∀ p, p < j → lo ≤ v / 10 ^ (n - 1 - p) % 10 ∧ v / 10 ^ (n - 1 - p) % 10 < lo + m) →
    f_X2_packed_L11 (nI lo) (nI m) K fu (nI (v / 10 ^ (n - j))) M (nI j - 1) = some (-1)
  | j, 0, _, _, h, _ => by omega
  | 0, fu + 1, M, hj, hfu, h => absurd (fun p hp => absurd hp (Nat.not_lt_zero p)) h
  | j + 1, fu + 1, M, hj, hfu, h => by
    have hq : v / 10 ^ (n - (j + 1)) ≤ v := Nat.div_le_self _ _
    have e1 : n - 1 - j = n - (j + 1) := by omega
    have e3 : v / 10 ^ (n - (j + 1)) / 10 = v / 10 ^ (n - j) := by
      rw [Nat.div_div_eq_div_mul, ← Nat.pow_succ]
      congr 2
      omega
    rw [f_X2_packed_L11, nI_dec (by omega), Nat.add_sub_cancel, if_neg (nI_pos (by omega)), li_10, qe_rm (by omega) (by omega) (by decide), ob_some]
    by_cases hc : v / 10 ^ (n - (j + 1)) % 10 < lo
    · rw [if_pos (sub_neg_of hlo hc)]
    · rw [nI_sub (by omega), if_neg (nI_pos (by omega))]
      by_cases hc2 : v / 10 ^ (n - (j + 1)) % 10 - lo < m
      · rw [if_pos (nI_lt hc2 (by omega)), e_put (by omega), ob_some, qe_dv (by omega) (by omega) (by decide), ob_some, nI_m1', e3]
        refine e_packed_badL hn hlo hm hv K j fu _ (by omega) (by omega) (fun h2 => h (fun p hp => ?_))
        rcases Nat.lt_succ_iff_lt_or_eq.mp hp with hp | rfl
        · exact h2 p hp
        · rw [e1]; omega
      · rw [if_neg (fun z => hc2 ((nI_ltI (by omega) (by omega)).mp z))]
theorem e_packed_no {n lo m : Nat} {x : Int32} (hn : n ≤ 6) (hlo : lo ≤ 1) (hm : m ≤ 6) (h : ¬ ∃ v, DI n lo m x v) : f_X2_packed x (nI n) (nI lo) (nI m) = some (-1) := by
  unfold f_X2_packed
  by_cases hx : x < 0
  · refine e_packed_negL hn hlo _ (fun a b c ha => if_neg ?_) n q_fu x 0 (Nat.le_refl _) (fu_lt (by omega)) hx
    rintro rfl
    exact absurd ha (by decide)
  · obtain ⟨v, hv, rfl⟩ := nat_of_nonneg hx
    by_cases hd : ∀ p, p < n → lo ≤ v / 10 ^ (n - 1 - p) % 10 ∧ v / 10 ^ (n - 1 - p) % 10 < lo + m
    · have h1 := e_packed_L hn hlo hm hv (fun l4_1 l5_1 _ => if l4_1 = 0 then (some (l5_1)) else (some ((-1)))) n q_fu 0 (Nat.le_refl _) (fu_lt (by omega)) (Nat.pow_pos (by decide)) hd
      rw [Nat.sub_self, Nat.pow_zero, Nat.div_one] at h1
      refine h1.trans (if_neg ?_)
      intro hz
      have hq : v / 10 ^ n ≤ v := Nat.div_le_self _ _
      have hz2 : v / 10 ^ n = 0 := nI_inj (by omega) (by omega) hz
      refine h ⟨v, hv, rfl, ?_, hd⟩
      exact (Nat.div_eq_zero_iff_lt (Nat.pow_pos (by decide))).mp hz2
    · have h1 := e_packed_badL hn hlo hm hv (fun l4_1 l5_1 _ => if l4_1 = 0 then (some (l5_1)) else (some ((-1)))) n q_fu 0 (Nat.le_refl _) (fu_lt (by omega)) hd
      rw [Nat.sub_self, Nat.pow_zero, Nat.div_one] at h1
      exact h1
