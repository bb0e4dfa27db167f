-- ===== the reference's types, index =====
theorem wk_le (r : Nat → Nat) : ∀ f s q, (wk r f s q).2 ≤ f
  | 0, _, _ => Nat.le_refl _
  | f + 1, s, q => by
    rw [wk]
    split
    · exact Nat.zero_le _
    · have := wk_le r f (s ||| 2 ^ q) (r q)
      show (wk r f (s ||| 2 ^ q) (r q)).2 + 1 ≤ f + 1
      omega
theorem wk_lt {r : Nat → Nat} {n : Nat} (hn : n ≤ 6) (hr : ∀ p, p < n → r p < n) : ∀ f s q, s < 64 → q < n → (wk r f s q).1 < 64
  | 0, s, _, hs, _ => hs
  | f + 1, s, q, hs, hq => by
    rw [wk]
    split
    · exact hs
    · exact wk_lt hn hr f _ _ (Nat.or_lt_two_pow (n := 6) hs (Nat.pow_lt_pow_right (by decide) (by omega))) (hr q hq)
theorem lens_lt {r : Nat → Nat} {n : Nat} (hn : n ≤ 6) (hr : ∀ p, p < n → r p < n) : ∀ m, m ≤ n → (lens r m).1 < 64
  | 0, _ => by show 0 < 64; decide
  | m + 1, hm => by
    rw [lens]
    exact wk_lt hn hr 6 _ m (lens_lt hn hr m (by omega)) (by omega)
theorem r_walk {as : Nat → Int32} {a1 a3 a4 : Int32} {r : Nat → Nat} {n : Nat} (hn : n ≤ 6) (hr : ∀ p, p < n → r p < n) (hA : ∀ p, p < n → as p = nI (r p)) (K : Int32 → Int32 → Int32 → Option Int32) : ∀ f fu s c q, s < 64 → q < n → (wk r f s q).2 < f → f ≤ fu → ∃ q', f_X10_cycles_L25 a1 a3 a4 as K fu (nI s) (nI c) (nI q) = K (nI (wk r f s q).1) (nI (c + (wk r f s q).2)) q'
  | 0, _, _, _, _, _, _, h, _ => by omega
  | f + 1, 0, _, _, _, _, _, _, h => by omega
  | f + 1, fu + 1, s, c, q, hs, hq, hw, hf => by
    rw [f_X10_cycles_L25, r_has (by omega) (by omega), ob_some]
    rw [wk] at hw ⊢
    by_cases h : s.testBit q = true
    · rw [if_pos h, if_neg (show ¬ (1 : Int32) = 0 by decide), if_pos h]
      exact ⟨_, rfl⟩
    · rw [if_neg h] at hw
      rw [if_neg h, if_pos rfl, if_neg h, qe_rd _ (by omega) (by decide), ob_some, hA q hq, e_bit (by omega), nI_or, nI_1]
      have hw2 : (wk r f (s ||| 2 ^ q) (r q)).2 + 1 < f + 1 := hw
      obtain ⟨q', e⟩ := r_walk hn hr hA K f fu (s ||| 2 ^ q) (c + 1) (r q) (Nat.or_lt_two_pow (n := 6) hs (Nat.pow_lt_pow_right (by decide) (by omega))) (hr q hq) (by omega) (by omega)
      refine ⟨q', e.trans ?_⟩
      show K _ (nI (c + 1 + _)) _ = K _ (nI (c + (_ + 1))) _
      rw [Nat.add_assoc c 1, Nat.add_comm 1]
/-- what a row of numbers asks of -/
def AS (as : Nat → Int32) (n : Nat) (r : Nat → Nat) : Prop := ∀ p, p < n → as p = nI (r p)
def cyp (sz l : Nat) : Bool := decide (0 < l) && (decide (sz = 0) || decide (l = sz))
theorem r_cycles_L {z as : Nat → Int32} {n row sz : Nat} (h2 : 2 ≤ n) (hn : n ≤ 6) (hz : z 0 = nI n) (hR : Rw n row) (hA : AS as n (rwf n row)) (hsz : sz ≤ 6) (K : Int32 → Int32 → Int32 → Option Int32) : ∀ d i fu, i + d = n → d < fu → f_X10_cycles_L7 (nI sz) z as K fu (nI (lens (rwf n row) i).1) (nI ((lens (rwf n row) i).2.countP (cyp sz))) (nI i) = K (nI (lens (rwf n row) n).1) (nI ((cyl n (rwf n row)).countP (cyp sz))) (nI n)
  | d, i, 0, _, h => by omega
  | 0, i, fu + 1, hi, _ => by
    rw [f_X10_cycles_L7, rd0 hz, ob_some, if_pos (nI_le (by omega) (by omega)), show i = n by omega, cyl]
  | d + 1, i, fu + 1, hi, hfu => by
    have hr : ∀ p, p < n → rwf n row p < n := fun p hp => by rw [rwf_lt hp]; exact hR.1.2.1 p hp
    have hl := lens_lt hn hr i (by omega)
    have hf := ((chk_facts h2 hn hR).1 i (by omega)).2.2
    have hw6 := wk_le (rwf n row) 6 (lens (rwf n row) i).1 i
    have hcl : (lens (rwf n row) i).2.countP (cyp sz) ≤ 6 := by
      refine Nat.le_trans List.countP_le_length ?_
      have : ∀ m, (lens (rwf n row) m).2.length = m := fun m => by
        induction m with
        | zero => rfl
        | succ m ih => rw [lens, List.length_append, ih]; rfl
      rw [this]; omega
    obtain ⟨q', e⟩ := r_walk (a1 := nI sz) (a3 := nI ((lens (rwf n row) i).2.countP (cyp sz))) (a4 := nI i) hn hr hA (fun l2_3 l5_3 _ => if l5_3 ≤ 0 then (f_X10_cycles_L7 (nI sz) z as K fu l2_3 (nI ((lens (rwf n row) i).2.countP (cyp sz)) + 0) (nI i + 1)) else (if nI sz = 0 then (f_X10_cycles_L7 (nI sz) z as K fu l2_3 (nI ((lens (rwf n row) i).2.countP (cyp sz)) + 1) (nI i + 1)) else (if l5_3 = nI sz then (f_X10_cycles_L7 (nI sz) z as K fu l2_3 (nI ((lens (rwf n row) i).2.countP (cyp sz)) + 1) (nI i + 1)) else (f_X10_cycles_L7 (nI sz) z as K fu l2_3 (nI ((lens (rwf n row) i).2.countP (cyp sz)) + 0) (nI i + 1))))) 7 q_fu (lens (rwf n row) i).1 0 i hl (by omega) (by rw [hf]; omega) (by unfold q_fu; omega)
    rw [f_X10_cycles_L7, rd0 hz, ob_some, if_neg (nI_ge (by omega) (by omega))]
    refine e.trans ?_
    have ih := r_cycles_L h2 hn hz hR hA hsz K d (i + 1) fu (by omega) (by omega)
    have hc : (lens (rwf n row) (i + 1)).2.countP (cyp sz) = (lens (rwf n row) i).2.countP (cyp sz) + if cyp sz (wk (rwf n row) 6 (lens (rwf n row) i).1 i).2 = true then 1 else 0 := by
      rw [lens, List.countP_append, List.countP_singleton]
    have hm : (lens (rwf n row) (i + 1)).1 = (wk (rwf n row) 6 (lens (rwf n row) i).1 i).1 := by rw [lens]
    rw [hc, hm] at ih
    rw [hf]
    show (if nI (0 + _) ≤ 0 then _ else _) = _
    rw [Nat.zero_add, nI_1, nI_1, show ∀ v : Int32, v + 0 = v from Int32.add_zero]
    generalize (wk (rwf n row) 6 (lens (rwf n row) i).1 i).2 = w at ih hw6
    by_cases h0 : w = 0
    · rw [if_pos (by rw [h0]; decide)]
      rw [if_neg (by rw [h0]; unfold cyp; simp)] at ih
      exact ih
    · rw [if_neg (nI_nle (by omega) (by omega))]
      by_cases hs0 : sz = 0
      · rw [if_pos (by rw [hs0]; rfl)]
        rw [if_pos (by unfold cyp; rw [hs0]; simp; omega)] at ih
        exact ih
      · rw [if_neg (nI_ne0 (by omega) (by omega))]
        by_cases hw : w = sz
        · rw [if_pos (by rw [hw])]
          rw [if_pos (by unfold cyp; simp [hw]; omega)] at ih
          exact ih
        · rw [if_neg (fun q => hw (nI_inj (by omega) (by omega) q))]
          rw [if_neg (by unfold cyp; simp [hw, hs0])] at ih
          exact ih
theorem r_cycles {z as : Nat → Int32} {n row sz : Nat} (h2 : 2 ≤ n) (hn : n ≤ 6) (hz : z 0 = nI n) (hR : Rw n row) (hA : AS as n (rwf n row)) (hsz : sz ≤ 6) : f_X10_cycles (nI sz) z as = some (nI ((cyl n (rwf n row)).countP (cyp sz))) := by
  unfold f_X10_cycles
  exact r_cycles_L h2 hn hz hR hA hsz (fun _ a _ => some a) n 0 q_fu (by omega) (fu_lt (by omega))
theorem r_typeAsked_L {z as : Nat → Int32} {n row : Nat} (h2 : 2 ≤ n) (hn : n ≤ 6) (hz : z 0 = nI n) (hR : Rw n row) (hA : AS as n (rwf n row)) (K : Int32 → Int32 → Option Int32) : ∀ d i fu, i + d = 6 → d < fu → f_X10_typeAsked_L4 z as K fu (nI (cb 10 (fun i => (cyl n (rwf n row)).countP (fun l => decide (l = i + 1))) i)) (nI (i + 1)) = K (nI (cb 10 (fun i => (cyl n (rwf n row)).countP (fun l => decide (l = i + 1))) 6)) (nI 7)
  | d, i, 0, _, h => by omega
  | 0, i, fu + 1, hi, _ => by
    rw [f_X10_typeAsked_L4, li_6, if_pos (nI_lt (by omega) (by omega)), show i = 6 by omega]
  | d + 1, i, fu + 1, hi, hfu => by
    rw [f_X10_typeAsked_L4, li_6, if_neg (nI_nlt (by omega) (by omega)), r_cycles h2 hn hz hR hA (by omega), ob_some, li_10, nI_mul, nI_add, nI_1, Nat.mul_comm 10]
    have e : (cyl n (rwf n row)).countP (cyp (i + 1)) = (cyl n (rwf n row)).countP (fun l => decide (l = i + 1)) := by
      refine List.countP_congr (fun l _ => ?_)
      unfold cyp
      simp
      omega
    rw [e]
    exact r_typeAsked_L h2 hn hz hR hA K d (i + 1) fu (by omega) (by omega)
theorem r_typeAsked {z as : Nat → Int32} {n row : Nat} (h2 : 2 ≤ n) (hn : n ≤ 6) (hz : z 0 = nI n) (hR : Rw n row) (hA : AS as n (rwf n row)) : f_X10_typeAsked z as = some (nI (typ n (rwf n row))) := by
  unfold f_X10_typeAsked
  rw [← (chk_facts h2 hn hR).2.2.2.2]
  exact r_typeAsked_L h2 hn hz hR hA (fun a _ => some a) 6 0 q_fu (by omega) (fu_lt (by omega))
theorem r_typeOf_L {z mv : Nat → Int32} {n j row : Nat} (hn : n ≤ 6) (hz : z 0 = nI n) (hj : j < 121) (hm : ∀ p, p < n → mv (6 * j + p) = nI (dg row p)) (K : Int32 → (Nat → Int32) → Option (Int32 × (Nat → Int32))) : ∀ d i fu as, i + d = n → d < fu → (∀ p, p < i → as p = nI (rwf n row p)) → ∃ as', AS as' n (rwf n row) ∧ f_X10_typeOf_L2 (nI j) z mv K fu (nI i) as = K (nI n) as'
  | d, i, 0, _, _, h, _ => by omega
  | 0, i, fu + 1, as, hi, _, h => by
    rw [f_X10_typeOf_L2, rd0 hz, ob_some, if_pos (nI_le (by omega) (by omega)), show i = n by omega]
    exact ⟨as, fun p hp => h p (by omega), rfl⟩
  | d + 1, i, fu + 1, as, hi, hfu, h => by
    rw [f_X10_typeOf_L2, rd0 hz, ob_some, if_neg (nI_ge (by omega) (by omega)), r_digit (by omega), ob_some, hm i (by omega), qe_wt _ _ (by omega) (by decide), ob_some, nI_1]
    refine r_typeOf_L hn hz hj hm K d (i + 1) fu _ (by omega) (by omega) (fun p hp => ?_)
    rcases Nat.lt_succ_iff_lt_or_eq.mp hp with hp | rfl
    · rw [upd_ne _ (by omega)]; exact h p hp
    · rw [upd_at, rwf_lt (by omega)]
theorem r_typeOf {z mv as : Nat → Int32} {n j row : Nat} (h2 : 2 ≤ n) (hn : n ≤ 6) (hz : z 0 = nI n) (hj : j < 121) (hR : Rw n row) (hm : ∀ p, p < n → mv (6 * j + p) = nI (dg row p)) : ∃ as', f_X10_typeOf (nI j) z mv as = some (nI (typ n (rwf n row)), as') := by
  unfold f_X10_typeOf
  obtain ⟨as', hA, e⟩ := r_typeOf_L hn hz hj hm (fun _ z_asked_1 => (f_X10_typeAsked z z_asked_1).bind fun t2 => some (t2, z_asked_1)) n 0 q_fu as (by omega) (fu_lt (by omega)) (fun p hp => by omega)
  refine ⟨as', e.trans ?_⟩
  show (f_X10_typeAsked z as').bind _ = _
  rw [r_typeAsked h2 hn hz hR hA, ob_some]
/-- the reference's index, as it stands -/
def IR (n : Nat) (T : List (Nat × Nat)) (ty tc : Nat → Int32) (tm : Int32) : Prop := AK ty (fsts T) ∧ AK tc (snds T) ∧ tm = nI T.length ∧ TO T ∧ ∀ q ∈ T, q.1 ∈ tyl n
theorem r_come_L {t : Nat} {ty : Nat → Int32} {S : List Nat} (hA : AK ty S) (hS : SI S) (hl : S.length ≤ 11) (ht : t < 2 ^ 31) (hb : ∀ x ∈ S, x < 2 ^ 31) (K : Int32 → Option ((Nat → Int32) × (Nat → Int32) × Int32)) :
    ∀ d i fu, i + d = S.length → d < fu → (∀ j, j < i → S.getD j 0 < t) → ∃ a, a ≤ S.length ∧ (∀ j, j < a → S.getD j 0 < t) ∧ (∀ j, a ≤ j → j < S.length → t ≤ S.getD j 0) ∧ f_X10_comes_L2 (nI t) ty (nI S.length) K fu (nI i) = K (nI a)
  | d, i, 0, _, h, _ => by omega
  | 0, i, fu + 1, hi, _, h1 => by
    rw [f_X10_comes_L2, if_pos (nI_le (by omega) (by omega))]
    exact ⟨i, by omega, h1, fun j hj hjl => by omega, rfl⟩
  | d + 1, i, fu + 1, hi, hfu, h1 => by
    have hb2 := hb _ (getD_mem (show i < S.length by omega))
    rw [f_X10_comes_L2, if_neg (nI_ge (by omega) (by omega)), qe_rd _ (by omega) (by decide), ob_some, hA i (by omega)]
    by_cases hc : t ≤ S.getD i 0
    · rw [if_pos (nI_le hc hb2)]
      refine ⟨i, by omega, h1, fun j hj hjl => ?_, rfl⟩
      rcases Nat.lt_or_ge i j with h | h
      · have := hS i j h hjl
        omega
      · rw [show j = i by omega]; exact hc
    · rw [if_neg (fun z => hc ((nI_leI ht hb2).mp z)), nI_1]
      refine r_come_L hA hS hl ht hb K d (i + 1) fu (by omega) (by omega) (fun j hj => ?_)
      rcases Nat.lt_succ_iff_lt_or_eq.mp hj with hj | rfl
      · exact h1 j hj
      · omega
/-- shifted up, from the end on down to a place -/
theorem r_up_L {a1 : Int32} {a m : Nat} (ty tc : Nat → Int32) (ham : a ≤ m) (hm : m ≤ 11) (K : Int32 → (Nat → Int32) → (Nat → Int32) → Option ((Nat → Int32) × (Nat → Int32) × Int32)) : ∀ d fu, a + d ≤ m → d < fu → f_X10_comes_L49 a1 (nI a) K fu (nI (a + d)) (va_cpy ty ty (a + d) (a + d + 1) (m - (a + d))) (va_cpy tc tc (a + d) (a + d + 1) (m - (a + d))) = K (nI a) (va_cpy ty ty a (a + 1) (m - a)) (va_cpy tc tc a (a + 1) (m - a))
  | d, 0, _, h => by omega
  | 0, fu + 1, _, _ => by
    rw [f_X10_comes_L49, Nat.add_zero, if_pos (nI_le (Nat.le_refl _) (by omega))]
  | d + 1, fu + 1, hd, hfu => by
    have hcp : ∀ g : Nat → Int32, upd (va_cpy g g (a + (d + 1)) (a + (d + 1) + 1) (m - (a + (d + 1)))) (a + (d + 1)) (g (a + d)) = va_cpy g g (a + d) (a + d + 1) (m - (a + d)) := by
      intro g
      funext x
      by_cases hx : x = a + (d + 1)
      · subst hx
        rw [upd_at]
        unfold va_cpy
        rw [if_pos (by omega)]
        congr 1
        omega
      · rw [upd_ne _ hx]
        unfold va_cpy
        by_cases h1 : a + (d + 1) + 1 ≤ x ∧ x < a + (d + 1) + 1 + (m - (a + (d + 1)))
        · rw [if_pos h1, if_pos (show a + d + 1 ≤ x ∧ x < a + d + 1 + (m - (a + d)) by omega)]
          congr 1
          omega
        · rw [if_neg h1, if_neg (show ¬ (a + d + 1 ≤ x ∧ x < a + d + 1 + (m - (a + d))) by omega)]
    have hrd : ∀ g : Nat → Int32, va_cpy g g (a + (d + 1)) (a + (d + 1) + 1) (m - (a + (d + 1))) (a + d) = g (a + d) := fun g => by
      unfold va_cpy
      rw [if_neg (by omega)]
    rw [f_X10_comes_L49, if_neg (nI_ge (by omega) (by omega)), nI_dec (by omega), show a + (d + 1) - 1 = a + d by omega, qe_rd _ (by omega) (by decide), ob_some, qe_wt _ _ (by omega) (by decide), ob_some, qe_rd _ (by omega) (by decide), ob_some, qe_wt _ _ (by omega) (by decide), ob_some, hrd, hrd, hcp, hcp, nI_m1 (by omega), show a + (d + 1) - 1 = a + d by omega]
    exact r_up_L ty tc ham hm K d fu (by omega) (by omega)
theorem va_cpy0 (g : Nat → Int32) (m : Nat) : va_cpy g g m (m + 1) (m - m) = g := by
  funext x
  unfold va_cpy
  rw [if_neg (by omega)]
theorem r_comes {n t : Nat} {T : List (Nat × Nat)} {ty tc : Nat → Int32} {tm : Int32} (h : IR n T ty tc tm) (ht : t ∈ tyl n) : ∃ ty' tc' tm', f_X10_comes (nI t) ty tc tm = some (ty', tc', tm') ∧ IR n (tadd t T) ty' tc' tm' := by
  obtain ⟨hA, hC, rfl, hT, hm⟩ := h
  have hS := TO_SI hT
  have hlen := IX_len hT hm
  have hl := fsts_len T
  have hl2 := snds_len T
  have hT2 : TO (tadd t T) := tadd_TO hT
  have hm2 : ∀ q ∈ tadd t T, q.1 ∈ tyl n := fun q hq => by
    rcases tadd_mem hq with e | ⟨r, hr, e⟩
    · rw [e]; exact ht
    · rw [← e]; exact hm r hr
  have ht2 := tyl_lt ht
  have hbS : ∀ x ∈ fsts T, x < 2 ^ 31 := fun x hx => by
    obtain ⟨q, hq, rfl⟩ := List.mem_map.mp hx
    have := tyl_lt (hm q hq)
    show q.1 < _
    omega
  have hins : ∀ a, a ≤ T.length → ¬ (a < T.length ∧ (fsts T).getD a 0 = t) → fsts (tadd t T) = put (fsts T) a t → snds (tadd t T) = put (snds T) a 1 → ∃ ty' tc' tm', f_X10_comes_L49 (nI t) (nI a) (fun _ z_types_3 z_typeCounts_3 => (q_wt z_types_3 120 (nI a) (nI t)).bind fun t4 => (q_wt z_typeCounts_3 120 (nI a) 0).bind fun t5 => (q_rd t5 120 (nI a)).bind fun t6 => (q_wt t5 120 (nI a) (t6 + 1)).bind fun t7 => some (t4, t7, nI T.length + 1)) q_fu (nI T.length) ty tc = some (ty', tc', tm') ∧ IR n (tadd t T) ty' tc' tm' := by
    intro a ha _ q2 q3
    have e := r_up_L (a1 := nI t) (a := a) (m := T.length) ty tc ha hlen (fun _ z_types_3 z_typeCounts_3 => (q_wt z_types_3 120 (nI a) (nI t)).bind fun t4 => (q_wt z_typeCounts_3 120 (nI a) 0).bind fun t5 => (q_rd t5 120 (nI a)).bind fun t6 => (q_wt t5 120 (nI a) (t6 + 1)).bind fun t7 => some (t4, t7, nI T.length + 1)) (T.length - a) q_fu (by omega) (fu_lt (by omega))
    rw [show a + (T.length - a) = T.length by omega, va_cpy0, va_cpy0] at e
    have e2 : ((q_wt (va_cpy ty ty a (a + 1) (T.length - a)) 120 (nI a) (nI t)).bind fun t4 => (q_wt (va_cpy tc tc a (a + 1) (T.length - a)) 120 (nI a) 0).bind fun t5 => (q_rd t5 120 (nI a)).bind fun t6 => (q_wt t5 120 (nI a) (t6 + 1)).bind fun t7 => some (t4, t7, nI T.length + 1)) = some (upd (va_cpy ty ty a (a + 1) (T.length - a)) a (nI t), upd (upd (va_cpy tc tc a (a + 1) (T.length - a)) a 0) a (nI 1), nI (T.length + 1)) := by
      rw [qe_wt _ _ (by omega) (by decide), ob_some, qe_wt _ _ (by omega) (by decide), ob_some, qe_rd _ (by omega) (by decide), ob_some, qe_wt _ _ (by omega) (by decide), ob_some, upd_at, nI_1]
      rfl
    refine ⟨_, _, _, e.trans e2, ?_, ?_, ?_, hT2, hm2⟩
    · rw [q2]
      have := AK_put (key := t) hA (by omega : a ≤ (fsts T).length)
      rwa [hl] at this
    · rw [q3, fa_upd_twice]
      have := AK_put (key := 1) hC (by omega : a ≤ (snds T).length)
      rwa [hl2] at this
    · have := congrArg List.length q2
      rw [fsts_len, put_len, hl] at this
      rw [this]
  unfold f_X10_comes
  obtain ⟨a, ha, h1, h2, e⟩ := r_come_L (t := t) hA hS (by omega) (by omega) hbS (fun l2_1 => if l2_1 = nI T.length then (f_X10_comes_L49 (nI t) l2_1 (fun _ z_types_3 z_typeCounts_3 => (q_wt z_types_3 120 l2_1 (nI t)).bind fun t4 => (q_wt z_typeCounts_3 120 l2_1 0).bind fun t5 => (q_rd t5 120 l2_1).bind fun t6 => (q_wt t5 120 l2_1 (t6 + 1)).bind fun t7 => some (t4, t7, nI T.length + 1)) q_fu (nI T.length) ty tc) else ((q_rd ty 120 l2_1).bind fun t8 => if t8 = nI t then ((q_rd tc 120 l2_1).bind fun t10 => (q_wt tc 120 l2_1 (t10 + 1)).bind fun t11 => some (ty, t11, nI T.length)) else (f_X10_comes_L49 (nI t) l2_1 (fun _ z_types_12 z_typeCounts_12 => (q_wt z_types_12 120 l2_1 (nI t)).bind fun t13 => (q_wt z_typeCounts_12 120 l2_1 0).bind fun t14 => (q_rd t14 120 l2_1).bind fun t15 => (q_wt t14 120 l2_1 (t15 + 1)).bind fun t16 => some (t13, t16, nI T.length + 1)) q_fu (nI T.length) ty tc))) (fsts T).length 0 q_fu (by omega) (fu_lt (by omega)) (fun j hj => by omega)
  rw [hl] at e ha
  rw [show (0 : Int32) = nI 0 from rfl] at e ⊢
  rw [e]
  have hcase := tadd_at (t := t) hT ha h1 (fun j hj hjl => h2 j hj (by omega))
  rcases hcase with ⟨q1, q2, q3, q4⟩ | ⟨q1, q2, q3⟩
  · rw [if_neg (fun z => by have := nI_inj (a := a) (b := T.length) (by omega) (by omega) z; omega), qe_rd _ (by omega) (by decide), ob_some, hA a (by omega), q2, if_pos rfl, qe_rd _ (by omega) (by decide), ob_some, hC a (by omega), nI_1, qe_wt _ _ (by omega) (by decide), ob_some]
    refine ⟨_, _, _, rfl, by rw [q3]; exact hA, ?_, ?_, hT2, hm2⟩
    · rw [q4]
      exact AK_set hC (by omega)
    · have := congrArg List.length q3
      rw [fsts_len, fsts_len] at this
      rw [this]
  · by_cases hal : a = T.length
    · rw [if_pos (by rw [hal])]
      exact hins a ha q1 q2 q3
    · rw [if_neg (fun z => hal (nI_inj (a := a) (b := T.length) (by omega) (by omega) z)), qe_rd _ (by omega) (by decide), ob_some, hA a (by omega), if_neg]
      · exact hins a ha q1 q2 q3
      · intro z
        have hbb := hbS _ (getD_mem (show a < (fsts T).length by omega))
        exact q1 ⟨by omega, nI_inj hbb (by omega) z⟩
