-- ===== rows told; paintings compared, counted =====
def mk (r : Nat) : Nat → Nat
  | 0 => 0
  | i + 1 => mk r i ||| 2 ^ dg r i
theorem mk_bit (r j : Nat) : ∀ i, (mk r i).testBit j = true ↔ ∃ p, p < i ∧ dg r p = j
  | 0 => by
    rw [mk, Nat.zero_testBit]
    constructor
    · intro h; cases h
    · rintro ⟨p, hp, -⟩; omega
  | i + 1 => by
    rw [mk, fb_bit_set, Bool.or_eq_true, mk_bit r j i, decide_eq_true_eq]
    constructor
    · rintro (⟨p, hp, e⟩ | e)
      · exact ⟨p, by omega, e⟩
      · exact ⟨i, by omega, e.symm⟩
    · rintro ⟨p, hp, e⟩
      rcases Nat.lt_succ_iff_lt_or_eq.mp hp with hp | rfl
      · exact Or.inl ⟨p, hp, e⟩
      · exact Or.inr e.symm
theorem mk_lt (r : Nat) : ∀ i, mk r i < 256
  | 0 => by rw [mk]; decide
  | i + 1 => by
    rw [mk]
    refine Nat.or_lt_two_pow (n := 8) (mk_lt r i) ?_
    have := dg_lt r i
    exact Nat.pow_lt_pow_right (by decide) (by omega)
/-- a row onto its places takes each once -/
theorem onto_inj {n : Nat} {f : Nat → Nat} (hf : ∀ i, i < n → f i < n) (h : ∀ y, y < n → ∃ i, i < n ∧ f i = y) : ∀ i j, i < n → j < n → f i = f j → i = j := by
  have hg : ∀ y, ∃ i, y < n → i < n ∧ f i = y := fun y => by
    by_cases hy : y < n
    · obtain ⟨i, h1, h2⟩ := h y hy; exact ⟨i, fun _ => ⟨h1, h2⟩⟩
    · exact ⟨0, fun q => absurd q hy⟩
  obtain ⟨g, hs⟩ : ∃ g : Nat → Nat, ∀ y, y < n → g y < n ∧ f (g y) = y := ⟨fun y => Classical.choose (hg y), fun y hy => Classical.choose_spec (hg y) hy⟩
  have ho : ∀ i, i < n → ∃ y, y < n ∧ g y = i := fun i hi => fb_onto (fun y hy => (hs y hy).1) (fun a b hab hb e => by
    have h1 := (hs a (by omega)).2
    have h2 := (hs b hb).2
    rw [e, h2] at h1
    omega) hi
  intro i j hi hj e
  obtain ⟨y, hy, rfl⟩ := ho i hi
  obtain ⟨z, hz, rfl⟩ := ho j hj
  rw [(hs y hy).2, (hs z hz).2] at e
  rw [e]
theorem mk_full {n r : Nat} (hn : n ≤ 6) (hr : ∀ p, p < n → dg r p < n) : mk r n = 2 ^ n - 1 ↔ ∀ p q, p < n → q < n → dg r p = dg r q → p = q := by
  constructor
  · intro h
    refine onto_inj hr (fun y hy => ?_)
    have h1 : (mk r n).testBit y = true := by rw [h, Nat.testBit_two_pow_sub_one]; exact decide_eq_true hy
    exact (mk_bit r y n).mp h1
  · intro h
    apply Nat.eq_of_testBit_eq
    intro j
    rw [Nat.testBit_two_pow_sub_one, Bool.eq_iff_iff, mk_bit, decide_eq_true_eq]
    constructor
    · rintro ⟨p, hp, rfl⟩; exact hr p hp
    · intro hj
      exact fb_onto (fun i hi => hr i hi) (fun a b hab hb e => by have := h a b (by omega) hb e; omega) hj
theorem e_bit {d : Nat} (hd : d < 8) : (1 : Int32) <<< (nI d &&& 31) = nI (2 ^ d) := by
  rw [nI_c31 d (by omega), li_1, nI_shl _ (by omega), Nat.one_mul]
theorem e_packedRow_L {r n : Nat} (hr : r < 2 ^ 31) (hn : n ≤ 6) (K : Int32 → Int32 → Option Int32) : ∀ d i fu, i + d = n → d < fu → f_X2_packedRow_L13 (nI n) (nI r) K fu (nI (mk r i)) (nI i) = K (nI (mk r n)) (nI n)
  | d, i, 0, _, h => by omega
  | 0, i, fu + 1, hi, _ => by
    rw [f_X2_packedRow_L13, if_neg (nI_pos hr), if_pos (nI_le (by omega) (by omega)), show i = n by omega]
  | d + 1, i, fu + 1, hi, hfu => by
    rw [f_X2_packedRow_L13, if_neg (nI_pos hr), if_neg (nI_ge (by omega) (by omega)), e_at hr (by omega), ob_some, e_bit (dg_lt _ _), nI_or, nI_1]
    exact e_packedRow_L hr hn K d (i + 1) fu (by omega) (by omega)
def rcode (n v : Nat) : Nat := pak n (fun p => di 10 n v p - 1)
theorem rcode_Pt {n v : Nat} (hn : n ≤ 6) (h : Dg n 1 n v) : Pt n n (rcode n v) := Pt_pak hn (by omega) (fun p hp => by have := h.2 p hp; omega)
theorem full_I {n : Nat} (hn : n ≤ 6) : (1 <<< (nI n &&& 31) : Int32) - 1 = nI (2 ^ n - 1) := by
  have : 1 ≤ 2 ^ n := Nat.pow_pos (by decide)
  rw [nI_c31 n (by omega), li_1, nI_shl _ (by omega), Nat.one_mul, nI_sub this]
theorem p2_lt {n : Nat} (hn : n ≤ 6) : 2 ^ n ≤ 64 := Nat.pow_le_pow_right (n := 2) (by decide) hn
theorem e_packedRow {n v : Nat} {x : Int32} (hn : n ≤ 6) (h : DI n 1 n x v) (hr : Rw n (rcode n v)) : f_X2_packedRow x (nI n) = some (nI (rcode n v)) := by
  unfold f_X2_packedRow
  have hp := rcode_Pt hn h.2.2
  have h1 := e_packed (lo := 1) hn (by omega) hn h
  rw [show f_X2_packed x (nI n) 1 (nI n) = some (nI (rcode n v)) from h1, ob_some]
  have h2 := e_packedRow_L (r := rcode n v) (by have := hp.1; omega) hn (fun l3_2 _ => if l3_2 = ((1 <<< (nI n &&& 31)) - 1) then (some (nI (rcode n v))) else (some ((-1)))) n 0 q_fu (by omega) (fu_lt (by omega))
  refine h2.trans (if_pos ?_)
  rw [full_I hn, (mk_full hn hp.2.1).mpr hr.2]
theorem e_packedRow_no {n : Nat} {x : Int32} (h1n : 1 ≤ n) (hn : n ≤ 6) (h : ¬ ∃ v, DI n 1 n x v ∧ Rw n (rcode n v)) : f_X2_packedRow x (nI n) = some (-1) := by
  unfold f_X2_packedRow
  by_cases hd : ∃ v, DI n 1 n x v
  · obtain ⟨v, hv⟩ := hd
    have hp := rcode_Pt hn hv.2.2
    have h1 := e_packed (lo := 1) hn (by omega) hn hv
    rw [show f_X2_packed x (nI n) 1 (nI n) = some (nI (rcode n v)) from h1, ob_some]
    have h2 := e_packedRow_L (r := rcode n v) (by have := hp.1; omega) hn (fun l3_2 _ => if l3_2 = ((1 <<< (nI n &&& 31)) - 1) then (some (nI (rcode n v))) else (some ((-1)))) n 0 q_fu (by omega) (fu_lt (by omega))
    refine h2.trans (if_neg ?_)
    rw [full_I hn]
    intro e
    have := p2_lt hn
    have hm := mk_lt (rcode n v) n
    have e2 := nI_inj (by omega) (by omega) e
    exact h ⟨v, hv, hp, (mk_full hn hp.2.1).mp e2⟩
  · have h1 := e_packed_no (lo := 1) (m := n) hn (by omega) hn hd
    rw [show f_X2_packed x (nI n) 1 (nI n) = some (-1) from h1, ob_some]
    show f_X2_packedRow_L13 (nI n) (-1) _ (5999 + 1) 0 0 = _
    rw [f_X2_packedRow_L13, if_pos m1_lt]
    refine if_neg ?_
    rw [full_I hn]
    intro e
    have h1 : (1 : Nat) < 2 ^ n ∨ n = 0 := by
      by_cases hz : n = 0
      · exact Or.inr hz
      · exact Or.inl (Nat.one_lt_two_pow hz)
    rcases h1 with h1 | rfl
    · have := p2_lt hn
      have e2 : 0 = 2 ^ n - 1 := nI_inj (by omega) (by omega) e
      omega
    · omega
-- comparing
theorem cb_lex {b : Nat} {f g : Nat → Nat} : ∀ {n p : Nat}, (∀ q, q < n → f q < b ∧ g q < b) → p < n → (∀ q, q < p → f q = g q) → f p < g p → cb b f n < cb b g n
  | 0, p, _, hp, _, _ => by omega
  | n + 1, p, hb, hp, he, hl => by
    rw [cb, cb, cb_step (hb n (by omega)).1 (hb n (by omega)).2]
    rcases Nat.lt_succ_iff_lt_or_eq.mp hp with hp | rfl
    · exact Or.inl (cb_lex (fun q hq => hb q (by omega)) hp he hl)
    · exact Or.inr ⟨cb_cong he, hl⟩
theorem bl_v : ∀ i, i < 6 → nI (18 - 3 * i) + (-3) = nI (15 - 3 * i) := by decide +kernel
theorem bl_e : ∀ n, n < 7 → nI (18 - 3 * n) + (-3) < nI (18 - 3 * n) := by decide +kernel
theorem bl_s : ∀ i, i < 6 → (nI (15 - 3 * i) &&& 31) = nI (15 - 3 * i) := by decide +kernel
theorem bl_l : ∀ n, n < 7 → 1 ≤ n → (15 - (3 * (nI n - 1)) : Int32) = nI (18 - 3 * n) := by decide +kernel
theorem dg_sh {x p : Nat} (hx : x < 2 ^ 31) (hp : p < 6) : (nI x >>> nI (15 - 3 * p)) &&& 7 = nI (dg x p) := by
  have := e_at hx hp
  unfold f_X2_at at this
  rw [at_sh p hp] at this
  exact Option.some.inj this
theorem e_becomesLess_L {P r n : Nat} (hn : n ≤ 6) (hP : P < 2 ^ 31) (hr : r < 2 ^ 31) (hd : ∀ p, p < n → dg r p < 6) (v : Nat)
    (hv1 : ∀ p, p < n → (∀ q, q < p → dg P (dg r q) = dg P q) → dg P (dg r p) < dg P p → v = 1) (hv0 : ∀ p, p < n → (∀ q, q < p → dg P (dg r q) = dg P q) → dg P p < dg P (dg r p) → v = 0) (hve : (∀ q, q < n → dg P (dg r q) = dg P q) → v = 0) :
    ∀ d i fu, i + d = n → d < fu → (∀ q, q < i → dg P (dg r q) = dg P q) → f_X2_becomesLess_L13 (nI P) (nI r) (nI (18 - 3 * n)) (fun _ => some 0) fu (nI (18 - 3 * i) + (-3)) = some (nI v)
  | d, i, 0, _, h, _ => by omega
  | 0, i, fu + 1, hi, _, he => by
    have hin : i = n := by omega
    subst hin
    rw [f_X2_becomesLess_L13, if_pos (bl_e i (by omega)), hve he]
    rfl
  | d + 1, i, fu + 1, hi, hfu, he => by
    have hi6 : i < 6 := by omega
    have hdi := hd i (by omega)
    have h8 := dg_lt P (dg r i)
    have h9 := dg_lt P i
    rw [f_X2_becomesLess_L13, bl_v i hi6, if_neg (nI_nlt (by omega) (by omega)), bl_s i hi6, dg_sh hr hi6, dg_sh hP hi6, at_sh _ hdi, dg_sh hP hdi]
    rcases Nat.lt_trichotomy (dg P (dg r i)) (dg P i) with h | h | h
    · have e1 : nI (dg P (dg r i)) - nI (dg P i) < 0 := by
        have t1 := nI_toInt (n := dg P (dg r i)) (by omega)
        have t2 := nI_toInt (n := dg P i) (by omega)
        rw [fa_lt, fb_subI (by rw [t1, t2]; omega) (by rw [t1, t2]; omega), t1, t2, show (0 : Int32).toInt = 0 from by decide]
        omega
      rw [if_neg (fun e => by rw [e] at e1; exact absurd e1 (by decide)), if_neg (fun e => by rw [fa_le] at e; rw [fa_lt] at e1; omega), hv1 i (by omega) he h]
      rfl
    · rw [h, Int32.sub_self, if_pos rfl]
      have e2 : nI (15 - 3 * i) + (-3) = nI (18 - 3 * (i + 1)) + (-3) := by rw [show 18 - 3 * (i + 1) = 15 - 3 * i by omega]
      rw [e2]
      refine e_becomesLess_L hn hP hr hd v hv1 hv0 hve d (i + 1) fu (by omega) (by omega) (fun q hq => ?_)
      rcases Nat.lt_succ_iff_lt_or_eq.mp hq with hq | rfl
      · exact he q hq
      · exact h
    · rw [nI_sub (by omega), if_neg (nI_ne0 (by omega) (by omega)), if_pos (nI_pos' (by omega)), hv0 i (by omega) he h]
      rfl
theorem e_becomesLess {P r n k : Nat} (h1 : 1 ≤ n) (hn : n ≤ 6) (hk : k ≤ 8) (hP : Pt n k P) (hr : Rw n r) : f_X2_becomesLess (nI P) (nI r) (nI n) = some (if ac n P r < P then 1 else 0) := by
  unfold f_X2_becomesLess
  rw [bl_l n (by omega) h1]
  have hA := ac_Pt hn hk hP hr.1.2.1
  have hord := Pt_ord (b := 8) hn hk hk hA hP
  have hord2 := Pt_ord (b := 8) hn hk hk hP hA
  have hb : ∀ q, q < n → dg (ac n P r) q < 8 ∧ dg P q < 8 := fun q _ => ⟨dg_lt _ _, dg_lt _ _⟩
  have h := e_becomesLess_L hn (P := P) (r := r) (by have := hP.1; omega) (by have := hr.1.1; omega) (fun p hp => by have := hr.1.2.1 p hp; omega) (if ac n P r < P then 1 else 0) (fun p hp he hl => by
      rw [if_pos]
      rw [hord]
      refine cb_lex hb hp (fun q hq => ?_) ?_
      · rw [ac_dg hn (by omega)]; exact he q hq
      · rw [ac_dg hn hp]; exact hl) (fun p hp he hl => by
      rw [if_neg]
      have : P < ac n P r := by
        rw [hord2]
        refine cb_lex (fun q hq => ⟨(hb q hq).2, (hb q hq).1⟩) hp (fun q hq => ?_) ?_
        · rw [ac_dg hn (by omega)]; exact (he q hq).symm
        · rw [ac_dg hn hp]; exact hl
      omega) (fun he => by
      rw [if_neg]
      have : ac n P r = P := hA.ext hP (fun q hq => by rw [ac_dg hn hq]; exact he q hq)
      omega) n 0 q_fu (by omega) (fu_lt (by omega)) (fun q hq => by omega)
  refine h.trans ?_
  split <;> rfl
