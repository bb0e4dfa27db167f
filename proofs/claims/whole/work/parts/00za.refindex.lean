-- ===== the reference's index filled; weights, uses; the greatest common divisor =====
/-- what moves() leaves -/
theorem full_lt {m : Nat} (hm : m ≤ 4) : 2 ^ m - 1 < 2 ^ m ∧ 2 ^ m - 1 < 2 ^ 31 := by
  have h1 : 0 < 2 ^ m := Nat.pow_pos (by decide)
  have h2 : 2 ^ m ≤ 2 ^ 4 := Nat.pow_le_pow_right (by decide) hm
  omega
theorem r_all {z : Nat → Int32} {m : Nat} (hm : m ≤ 4) (hz : z 2 = nI m) : f_X10_allGenerators z = some (nI (2 ^ m - 1)) := by
  unfold f_X10_allGenerators
  rw [rd2 hz, ob_some, full_I (by omega)]
theorem r_moves_ {z mv hd : Nat → Int32} {mm : Int32} {n m : Nat} {gk : Nat → Nat} {B : List Nat} (hn : n ≤ 6) (hm : m ≤ 4) (hZ : ZG z n m gk) (hg : ∀ i, i < m → Mv n (gk i)) (hB : gen n (sel (2 ^ m - 1) gk m 0) = some B) : ∃ mv' hd', MA mv' hd' n (srt B) ∧ f_X10_moves_ z mm mv hd = some (nI B.length, mv', hd') := by
  unfold f_X10_moves_
  rw [r_all hm hZ.2.1, ob_some]
  obtain ⟨mv', hd', h1, e⟩ := (r_moves (mv := mv) (hd := hd) (mm := mm) hn hm hZ (full_lt hm).2 (fun i hi _ => hg i hi)).1 B hB
  rw [e, ob_some]
  exact ⟨mv', hd', h1, rfl⟩
theorem r_indexes_L {z mv hd : Nat → Int32} {n b : Nat} {B : List Nat} (h2 : 2 ≤ n) (hn : n ≤ 6) (hz : z 0 = nI n) (hb : b ≤ 1) (hB : KS B n) (hM : MA mv hd n (srt B)) (K : Int32 → (Nat → Int32) → (Nat → Int32) → (Nat → Int32) → Int32 → Option (Int32 × (Nat → Int32) × (Nat → Int32) × (Nat → Int32) × (Nat → Int32) × (Nat → Int32) × Int32)) :
    ∀ d i fu T as ty tc tm, i + d = B.length → d < fu → IR n T ty tc tm → ∃ as' ty' tc' tm', IR n ((tps n b ((srt B).drop i)).foldl (fun T t => tadd t T) T) ty' tc' tm' ∧ f_X10_indexes_L11 (nI b) z (nI B.length) mv hd K fu (nI i) as ty tc tm = K (nI B.length) as' ty' tc' tm'
  | d, i, 0, _, _, _, _, _, _, h, _ => by omega
  | 0, i, fu + 1, T, as, ty, tc, tm, hi, _, hI => by
    have hl := hB.2
    have hL := srt_len B
    rw [f_X10_indexes_L11, if_pos (nI_le (by omega) (by omega)), List.drop_eq_nil_of_le (by omega), show i = B.length by omega]
    exact ⟨as, ty, tc, tm, hI, rfl⟩
  | d + 1, i, fu + 1, T, as, ty, tc, tm, hi, hfu, hI => by
    have hl := hB.2
    have hL := srt_len B
    have hiL : i < (srt B).length := by omega
    have hK := KS_key hB hiL
    rw [f_X10_indexes_L11, if_neg (nI_ge (by omega) (by omega)), r_counts hb (by omega) hiL hM, ob_some, nI_1, drop_cons hiL, tps]
    by_cases h1 : (srt B).getD i 0 % 2 ≤ b
    · rw [if_pos h1, if_neg (show ¬ (1 : Int32) = 0 by decide), List.filter_cons_of_pos (by rw [decide_eq_true_eq]; exact h1), List.map_cons, List.foldl_cons]
      obtain ⟨as1, e1⟩ := r_typeOf (as := as) h2 hn hz (show i < 121 by omega) hK (hM i hiL).1
      obtain ⟨ty1, tc1, tm1, e2, hI2⟩ := r_comes hI (chk_facts h2 hn hK).2.2.1
      rw [e1, ob_some, e2, ob_some]
      exact r_indexes_L h2 hn hz hb hB hM K d (i + 1) fu _ as1 ty1 tc1 tm1 (by omega) (by omega) hI2
    · rw [if_neg h1, if_pos rfl, List.filter_cons_of_neg (by rw [decide_eq_true_eq]; exact h1)]
      exact r_indexes_L h2 hn hz hb hB hM K d (i + 1) fu T as ty tc tm (by omega) (by omega) hI
theorem r_indexes {z mv hd as ty tc : Nat → Int32} {mm tm : Int32} {n m b : Nat} {gk : Nat → Nat} {B : List Nat} (h2 : 2 ≤ n) (hn : n ≤ 6) (hm : m ≤ 4) (hZ : ZG z n m gk) (hg : ∀ i, i < m → Mv n (gk i)) (hB : gen n (sel (2 ^ m - 1) gk m 0) = some B) (hb : b ≤ 1) (hK : KS B n) :
    ∃ mv' hd' as' ty' tc' tm', MA mv' hd' n (srt B) ∧ IR n (TT n b B) ty' tc' tm' ∧ f_X10_indexes (nI b) z mm mv hd as ty tc tm = some (nI B.length, mv', hd', as', ty', tc', tm') := by
  unfold f_X10_indexes
  obtain ⟨mv', hd', h1, e⟩ := r_moves_ (mv := mv) (hd := hd) (mm := mm) hn hm hZ hg hB
  rw [e, ob_some]
  have hI0 : IR n [] ty tc 0 := ⟨fun j hj => (by cases hj), fun j hj => (by cases hj), rfl, List.Pairwise.nil, fun q hq => (by cases hq)⟩
  obtain ⟨as', ty', tc', tm', hI, e2⟩ := r_indexes_L h2 hn hZ.1 hb hK h1 (fun _ z_asked_2 z_types_2 z_typeCounts_2 z_typeMany_2 => some (nI B.length, mv', hd', z_asked_2, z_types_2, z_typeCounts_2, z_typeMany_2)) B.length 0 q_fu [] as ty tc 0 (by omega) (fu_lt (by have := hK.2; omega)) hI0
  rw [List.drop_zero] at hI
  exact ⟨mv', hd', as', ty', tc', tm', h1, hI, e2⟩
-- MANY
theorem r_pow {x : Nat} {a1 a5 : Int32} {a3 : Int64} (hx : x < 2 ^ 31) (K : Int64 → Int32 → Option (Int64 × Int32 × (Nat → Int32) × (Nat → Int32) × (Nat → Int32))) : ∀ j fu a, j ≤ 9 → j < fu → f_X10_many_L99 a1 (nI x) a3 a5 K fu (lN a) (nI j) = K (lN (a * x ^ j)) (nI 0)
  | j, 0, _, _, h => by omega
  | 0, fu + 1, a, _, _ => by
    rw [f_X10_many_L99, if_pos (by decide), Nat.pow_zero, Nat.mul_one]
  | j + 1, fu + 1, a, hj, hfu => by
    rw [f_X10_many_L99, if_neg (nI_nle (by omega) (by omega)), nI_l hx, lN_mul, nI_m1 (by omega), Nat.add_sub_cancel, r_pow hx K j fu _ (by omega) (by omega), Nat.pow_succ, Nat.mul_comm (x ^ j) x, Nat.mul_assoc]
theorem r_ask_L {z mv : Nat → Int32} {n j row : Nat} {a1 a2 : Int32} {a3 : Int64} (hn : n ≤ 6) (hz : z 0 = nI n) (hj : j < 121) (hm : ∀ p, p < n → mv (6 * j + p) = nI (dg row p)) (K : Int32 → (Nat → Int32) → Option (Int64 × Int32 × (Nat → Int32) × (Nat → Int32) × (Nat → Int32))) : ∀ d i fu as, i + d = n → d < fu → (∀ p, p < i → as p = nI (rwf n row p)) → ∃ as', AS as' n (rwf n row) ∧ f_X10_many_L57 a1 a2 a3 (nI j) z mv K fu (nI i) as = K (nI n) as'
  | d, i, 0, _, _, h, _ => by omega
  | 0, i, fu + 1, as, hi, _, h => by
    rw [f_X10_many_L57, rd0 hz, ob_some, if_pos (nI_le (by omega) (by omega)), show i = n by omega]
    exact ⟨as, fun p hp => h p (by omega), rfl⟩
  | d + 1, i, fu + 1, as, hi, hfu, h => by
    rw [f_X10_many_L57, rd0 hz, ob_some, if_neg (nI_ge (by omega) (by omega)), r_digit (by omega), ob_some, hm i (by omega), qe_wt _ _ (by omega) (by decide), ob_some, nI_1]
    refine r_ask_L hn hz hj hm K d (i + 1) fu _ (by omega) (by omega) (fun p hp => ?_)
    rcases Nat.lt_succ_iff_lt_or_eq.mp hp with hp | rfl
    · rw [upd_ne _ (by omega)]; exact h p hp
    · rw [upd_at, rwf_lt (by omega)]
theorem r_many_L {z mv hd : Nat → Int32} {n b x : Nat} {B : List Nat} (h2 : 2 ≤ n) (hn : n ≤ 6) (hz : z 0 = nI n) (hb : b ≤ 1) (hx : x ≤ 9) (hB : KS B n) (hM : MA mv hd n (srt B)) (K : Int64 → Int32 → (Nat → Int32) → Option (Int64 × Int32 × (Nat → Int32) × (Nat → Int32) × (Nat → Int32))) :
    ∀ d i fu a as, i + d = B.length → d < fu → ∃ as', f_X10_many_L32 (nI b) (nI x) z (nI B.length) mv hd K fu (lN a) (nI i) as = K (lN (a + sm (fun K => x ^ ncy n (rwf n (K / 2))) (((srt B).drop i).filter (fun K => decide (K % 2 ≤ b))))) (nI B.length) as'
  | d, i, 0, _, _, _, h => by omega
  | 0, i, fu + 1, a, as, hi, _ => by
    have hl := hB.2
    have hL := srt_len B
    rw [f_X10_many_L32, if_pos (nI_le (by omega) (by omega)), List.drop_eq_nil_of_le (by omega), show i = B.length by omega]
    exact ⟨as, rfl⟩
  | d + 1, i, fu + 1, a, as, hi, hfu => by
    have hl := hB.2
    have hL := srt_len B
    have hiL : i < (srt B).length := by omega
    have hK := KS_key hB hiL
    rw [f_X10_many_L32, if_neg (nI_ge (by omega) (by omega)), r_counts hb (by omega) hiL hM, ob_some, nI_1, drop_cons hiL]
    by_cases h1 : (srt B).getD i 0 % 2 ≤ b
    · rw [if_pos h1, if_neg (show ¬ (1 : Int32) = 0 by decide), List.filter_cons_of_pos (by rw [decide_eq_true_eq]; exact h1), sm_cons]
      obtain ⟨as1, hA1, e1⟩ := r_ask_L (a1 := nI b) (a2 := nI x) (a3 := lN a) hn hz (show i < 121 by omega) (hM i hiL).1 (fun _ z_asked_4 => (f_X10_cycles 0 z z_asked_4).bind fun t5 => f_X10_many_L99 (nI b) (nI x) (lN a) (nI i) (fun l6_6 _ => f_X10_many_L32 (nI b) (nI x) z (nI B.length) mv hd K fu (lN a + l6_6) (nI (i + 1)) z_asked_4) q_fu 1 t5) n 0 q_fu as (by omega) (fu_lt (by omega)) (fun p hp => by omega)
      have hc : f_X10_cycles 0 z as1 = some (nI (ncy n (rwf n ((srt B).getD i 0 / 2)))) := by
        have := r_cycles (sz := 0) h2 hn hz hK hA1 (by omega)
        rw [show (0 : Int32) = nI 0 from rfl, this]
        have e : cyp 0 = fun l => decide (0 < l) := by
          funext l
          unfold cyp
          simp
        rw [e, ncy]
      have hnc := ncy_le (n := n) (r := (srt B).getD i 0 / 2)
      have e2 := r_pow (x := x) (a1 := nI b) (a5 := nI i) (a3 := lN a) (by omega) (fun l6_6 _ => f_X10_many_L32 (nI b) (nI x) z (nI B.length) mv hd K fu (lN a + l6_6) (nI (i + 1)) as1) (ncy n (rwf n ((srt B).getD i 0 / 2))) q_fu 1 (by omega) (fu_lt (by omega))
      obtain ⟨as', e3⟩ := r_many_L h2 hn hz hb hx hB hM K d (i + 1) fu (a + x ^ ncy n (rwf n ((srt B).getD i 0 / 2))) as1 (by omega) (by omega)
      refine ⟨as', e1.trans ?_⟩
      show (f_X10_cycles 0 z as1).bind _ = _
      rw [hc, ob_some]
      refine e2.trans ?_
      show f_X10_many_L32 _ _ _ _ _ _ _ _ (lN a + lN (1 * _)) _ _ = _
      rw [Nat.one_mul, lN_add, e3, Nat.add_assoc]
    · rw [if_neg h1, if_pos rfl, List.filter_cons_of_neg (by rw [decide_eq_true_eq]; exact h1)]
      exact r_many_L h2 hn hz hb hx hB hM K d (i + 1) fu a as (by omega) (by omega)
theorem filt_BY {b : Nat} {B : List Nat} (hb : b ≤ 1) : ((srt B).filter (fun K => decide (K % 2 ≤ b))).Perm (BY b B) := by
  refine ((srt_perm B).filter _).trans ?_
  rcases (show b = 0 ∨ b = 1 by omega) with rfl | rfl
  · refine List.Perm.of_eq ?_
    show _ = B0 B
    unfold B0
    congr 1
    funext K
    congr 1
    exact propext (by omega)
  · refine List.Perm.of_eq ?_
    show _ = B
    rw [List.filter_eq_self]
    intro K _
    exact decide_eq_true (by omega)
theorem sm_perm {f : Nat → Nat} {A B : List Nat} (h : A.Perm B) : sm f A = sm f B := (h.map f).sum_nat
-- weights, uses
def wt (n : Nat) (w : Nat → Nat) (P : Nat) : Nat := fb_sm (fun p => w (dg P p)) n
def usn (d : Nat) : Nat := match d with
  | 0 => 1000
  | 1 => 100
  | 2 => 10
  | _ => 1
def use_ (n P : Nat) : Nat := fb_sm (fun p => usn (dg P p)) n
theorem rd5 {z : Nat → Int32} {w : Nat → Nat} (hw : ∀ j, j < 4 → z (5 + j) = nI (w j)) {d : Nat} (hd : d < 4) : q_rd z 82 (5 + nI d) = some (nI (w d)) := by
  rw [li_5, nI_add, qe_rd _ (by omega) (by decide), hw d hd]
theorem r_heavy_L {z pa : Nat → Int32} {w : Nat → Nat} {n P : Nat} (hn : n ≤ 6) (hz : z 0 = nI n) (hw : ∀ j, j < 4 → z (5 + j) = nI (w j)) (hA : PA pa n P) (hP : ∀ p, p < n → dg P p < 4) (K : Int32 → Int32 → Option (Int32 × (Nat → Int32))) : ∀ d i fu, i + d = n → d < fu → f_X10_heavyOf_L9 z pa K fu (nI (fb_sm (fun p => w (dg P p)) i)) (nI i) = K (nI (wt n w P)) (nI n)
  | d, i, 0, _, h => by omega
  | 0, i, fu + 1, hi, _ => by
    rw [f_X10_heavyOf_L9, rd0 hz, ob_some, if_pos (nI_le (by omega) (by omega)), show i = n by omega, wt]
  | d + 1, i, fu + 1, hi, hfu => by
    rw [f_X10_heavyOf_L9, rd0 hz, ob_some, if_neg (nI_ge (by omega) (by omega)), qe_rd _ (by omega) (by decide), ob_some, hA i (by omega), rd5 hw (hP i (by omega)), ob_some, nI_add, nI_1]
    exact r_heavy_L hn hz hw hA hP K d (i + 1) fu (by omega) (by omega)
theorem r_heavyOf {z pa : Nat → Int32} {w : Nat → Nat} {n k P : Nat} (hn : n ≤ 6) (hk1 : 1 ≤ k) (hk : k ≤ 4) (hz : z 0 = nI n) (hz1 : z 1 = nI k) (hw : ∀ j, j < 4 → z (5 + j) = nI (w j)) (hP : Pt n k P) : ∃ pa', PA pa' n P ∧ f_X10_heavyOf (nI (idx n k P)) z pa = some (nI (wt n w P), pa') := by
  have h1 := idx_lt hP
  have h2 := pow_4096 hn hk
  unfold f_X10_heavyOf
  obtain ⟨pa', hA, e⟩ := r_paints (pa := pa) (v := idx n k P) hn hk1 hk hz hz1 (by omega)
  rw [pt_idx hn hk1 (by omega) hP] at hA
  rw [e, ob_some]
  exact ⟨pa', hA, r_heavy_L hn hz hw hA (fun p hp => by have := hP.2.1 p hp; omega) (fun l2_2 _ => some (l2_2, pa')) n 0 q_fu (by omega) (fu_lt (by omega))⟩
theorem e_weightAt {f : Nat → Int32} {w : Nat → Nat} {P p : Nat} (hP : P < 2 ^ 31) (hp : p < 6) (hd : dg P p < 4) (hw : ∀ j, j < 4 → f j = nI (w j)) : f_X3_weightAt (nI P) (nI p) f = some (nI (w (dg P p))) := by
  unfold f_X3_weightAt
  rw [e_at hP hp, ob_some, li_4, if_neg (nI_ge hd (by decide)), qe_rd _ hd (by decide), ob_some, hw _ hd]
theorem e_weight_L {f : Nat → Int32} {w : Nat → Nat} {n P : Nat} (hn : n ≤ 6) (hP : P < 2 ^ 31) (hd4 : ∀ p, p < n → dg P p < 4) (hw : ∀ j, j < 4 → f j = nI (w j)) (K : Int32 → Int32 → Option Int32) : ∀ d i fu, i + d = n → d < fu → f_X3_weightOf_L4 (nI P) (nI n) f K fu (nI (fb_sm (fun p => w (dg P p)) i)) (nI i) = K (nI (wt n w P)) (nI n)
  | d, i, 0, _, h => by omega
  | 0, i, fu + 1, hi, _ => by
    rw [f_X3_weightOf_L4, if_pos (nI_le (by omega) (by omega)), show i = n by omega, wt]
  | d + 1, i, fu + 1, hi, hfu => by
    rw [f_X3_weightOf_L4, if_neg (nI_ge (by omega) (by omega)), e_weightAt hP (by omega) (hd4 i (by omega)) hw, ob_some, nI_add, nI_1]
    exact e_weight_L hn hP hd4 hw K d (i + 1) fu (by omega) (by omega)
theorem e_weightOf {f : Nat → Int32} {w : Nat → Nat} {n k P : Nat} (hn : n ≤ 6) (hk : k ≤ 4) (hP : Pt n k P) (hw : ∀ j, j < 4 → f j = nI (w j)) : f_X3_weightOf (nI P) (nI n) f = some (nI (wt n w P)) := by
  unfold f_X3_weightOf
  exact e_weight_L hn (Pt_31 hP) (fun p hp => by have := hP.2.1 p hp; omega) hw (fun a _ => some a) n 0 q_fu (by omega) (fu_lt (by omega))
theorem e_use_L {n P : Nat} (hn : n ≤ 6) (hP : P < 2 ^ 31) (hd4 : ∀ p, p < n → dg P p < 4) (K : Int32 → Int32 → Option Int32) : ∀ d i fu, i + d = n → d < fu → f_X2_howOftenEach_L4 (nI P) (nI n) K fu (nI (fb_sm (fun p => usn (dg P p)) i)) (nI i) = K (nI (use_ n P)) (nI n)
  | d, i, 0, _, h => by omega
  | 0, i, fu + 1, hi, _ => by
    rw [f_X2_howOftenEach_L4, if_pos (nI_le (by omega) (by omega)), show i = n by omega, use_]
  | d + 1, i, fu + 1, hi, hfu => by
    have h4 := hd4 i (by omega)
    have ih := e_use_L hn hP hd4 K d (i + 1) fu (by omega) (by omega)
    rw [fb_sm_succ] at ih
    rw [f_X2_howOftenEach_L4, if_neg (nI_ge (by omega) (by omega)), e_at hP (by omega), ob_some, nI_1]
    rcases (show dg P i = 0 ∨ dg P i = 1 ∨ dg P i = 2 ∨ dg P i = 3 by omega) with e | e | e | e
    · rw [e] at ih ⊢
      rw [if_pos (show nI 0 = (0 : Int32) from rfl), show (1000 : Int32) = nI 1000 from rfl, nI_add]
      exact ih
    · rw [e] at ih ⊢
      rw [if_neg (by decide), if_pos (show nI 1 = (1 : Int32) from rfl), show (100 : Int32) = nI 100 from rfl, nI_add]
      exact ih
    · rw [e] at ih ⊢
      rw [if_neg (by decide), if_neg (by decide), if_pos (show nI 2 = (2 : Int32) from rfl), show (10 : Int32) = nI 10 from rfl, nI_add]
      exact ih
    · rw [e] at ih ⊢
      rw [if_neg (by decide), if_neg (by decide), if_neg (by decide), nI_1]
      exact ih
theorem e_howOftenEach {n k P : Nat} (hn : n ≤ 6) (hk : k ≤ 4) (hP : Pt n k P) : f_X2_howOftenEach (nI P) (nI n) = some (nI (use_ n P)) := by
  unfold f_X2_howOftenEach
  exact e_use_L hn (Pt_31 hP) (fun p hp => by have := hP.2.1 p hp; omega) (fun a _ => some a) n 0 q_fu (by omega) (fu_lt (by omega))
def cnk (n P j : Nat) : Nat := fb_sm (fun p => if dg P p = j then 1 else 0) n
theorem cnk_le (n P j : Nat) : cnk n P j ≤ n := by
  have := fb_sm_bound (f := fun p => if dg P p = j then 1 else 0) (c := 1) (n := n) (fun p _ => by split <;> omega)
  unfold cnk
  omega
theorem use_cnk {P : Nat} : ∀ {n}, (∀ p, p < n → dg P p < 4) → use_ n P = 1000 * cnk n P 0 + 100 * cnk n P 1 + 10 * cnk n P 2 + cnk n P 3
  | 0, _ => rfl
  | n + 1, h => by
    have ih := use_cnk (P := P) (n := n) (fun p hp => h p (by omega))
    have h4 := h n (by omega)
    unfold use_ cnk at ih ⊢
    simp only [fb_sm_succ]
    rw [ih]
    rcases (show dg P n = 0 ∨ dg P n = 1 ∨ dg P n = 2 ∨ dg P n = 3 by omega) with e | e | e | e <;> rw [e] <;> simp [usn] <;> omega
theorem r_useK_L {z pa : Nat → Int32} {a2 : Int32} {n P j : Nat} (hn : n ≤ 6) (hj : j < 4) (hz : z 0 = nI n) (hA : PA pa n P) (K : Int32 → Int32 → Option (Int32 × (Nat → Int32))) : ∀ d i fu, i + d = n → d < fu → f_X10_useOf_L20 a2 (nI j) z pa K fu (nI (fb_sm (fun p => if dg P p = j then 1 else 0) i)) (nI i) = K (nI (cnk n P j)) (nI n)
  | d, i, 0, _, h => by omega
  | 0, i, fu + 1, hi, _ => by
    rw [f_X10_useOf_L20, rd0 hz, ob_some, if_pos (nI_le (by omega) (by omega)), show i = n by omega, cnk]
  | d + 1, i, fu + 1, hi, hfu => by
    have h8 := dg_lt P i
    have ih := r_useK_L (a2 := a2) hn hj hz hA K d (i + 1) fu (by omega) (by omega)
    rw [fb_sm_succ] at ih
    rw [f_X10_useOf_L20, rd0 hz, ob_some, if_neg (nI_ge (by omega) (by omega)), qe_rd _ (by omega) (by decide), ob_some, hA i (by omega), nI_1, nI_1, show ∀ v : Int32, v + 0 = v from Int32.add_zero]
    by_cases h : dg P i = j
    · rw [if_pos (by rw [h])]
      rw [if_pos h] at ih
      exact ih
    · rw [if_neg (fun q => h (nI_inj (by omega) (by omega) q))]
      rw [if_neg h] at ih
      exact ih
theorem r_useOf {z pa : Nat → Int32} {n k P : Nat} (hn : n ≤ 6) (hk1 : 1 ≤ k) (hk : k ≤ 4) (hz : z 0 = nI n) (hz1 : z 1 = nI k) (hP : Pt n k P) : ∃ pa', f_X10_useOf (nI (idx n k P)) z pa = some (nI (use_ n P), pa') := by
  have h1 := idx_lt hP
  have h2 := pow_4096 hn hk
  unfold f_X10_useOf
  obtain ⟨pa', hA, e⟩ := r_paints (pa := pa) (v := idx n k P) hn hk1 hk hz hz1 (by omega)
  rw [pt_idx hn hk1 (by omega) hP] at hA
  rw [e, ob_some]
  refine ⟨pa', ?_⟩
  have step : ∀ (v j fu : Nat), j < 4 → f_X10_useOf_L9 z pa' (fun l2_2 _ => some (l2_2, pa')) (fu + 1) (nI v) (nI j) = f_X10_useOf_L9 z pa' (fun l2_2 _ => some (l2_2, pa')) fu (nI (10 * v + cnk n P j)) (nI (j + 1)) := by
    intro v j fu hj
    rw [f_X10_useOf_L9, li_4, if_neg (nI_ge hj (by decide))]
    have h := r_useK_L (a2 := nI v) hn hj hz hA (fun l4_2 _ => f_X10_useOf_L9 z pa' (fun l2_2 _ => some (l2_2, pa')) fu ((10 * nI v) + l4_2) (nI j + 1)) n 0 q_fu (by omega) (fu_lt (by omega))
    refine Eq.trans h ?_
    show f_X10_useOf_L9 _ _ _ _ (10 * nI v + nI _) (nI j + 1) = _
    rw [li_10, nI_mul, nI_add, nI_1]
  show f_X10_useOf_L9 z pa' _ (5995 + 1 + 1 + 1 + 1 + 1) (nI 0) (nI 0) = _
  rw [step _ _ _ (by decide), step _ _ _ (by decide), step _ _ _ (by decide), step _ _ _ (by decide), f_X10_useOf_L9, if_pos (by decide)]
  congr 2
  rw [use_cnk (fun p hp => by have := hP.2.1 p hp; omega)]
  congr 1
  show 10 * (10 * (10 * (10 * 0 + cnk n P 0) + cnk n P 1) + cnk n P 2) + cnk n P 3 = _
  omega
-- the greatest common divisor
theorem gcd_step (x y : Nat) : Nat.gcd y (x % y) = Nat.gcd x y := by rw [Nat.gcd_comm x y, Nat.gcd_rec y x, Nat.gcd_comm]
theorem r_common_L (K : Int32 → Int32 → Option Int32) : ∀ fu x y, x < 2 ^ 31 → y < 2 ^ 31 → y < fu → f_X10_common_L4 K fu (nI x) (nI y) = K (nI (Nat.gcd x y)) (nI 0)
  | 0, _, _, _, _, h => by omega
  | fu + 1, x, y, hx, hy, h => by
    rw [f_X10_common_L4]
    by_cases h0 : y = 0
    · rw [if_pos (by rw [h0]; rfl), h0, Nat.gcd_zero_right]
    · have hm := Nat.mod_lt x (show 0 < y by omega)
      rw [if_neg (nI_ne0 (by omega) hy), qe_rm hx hy (by omega), ob_some, r_common_L K fu y (x % y) hy (by omega) (by omega), gcd_step]
theorem r_common {a b : Nat} (ha : a < 2 ^ 31) (hb : b < 5000) : f_X10_common (nI a) (nI b) = some (nI (Nat.gcd a b)) := by
  unfold f_X10_common
  exact r_common_L (fun x _ => some x) q_fu a b ha (by omega) (fu_lt hb)
theorem half_mod {r y : Nat} (hr : 0 < r) (h : r ≤ y) : 2 * (y % r) < y := by
  have h1 := Nat.mod_lt y hr
  have h2 := Nat.div_add_mod y r
  have h3 : 1 ≤ y / r := (Nat.le_div_iff_mul_le hr).mpr (by omega)
  have h4 : r * 1 ≤ r * (y / r) := Nat.mul_le_mul_left r h3
  omega
theorem e_gcd_L (K : Int32 → Int32 → Int32 → Option Int32) : ∀ t fu x y s, x < 2 ^ 31 → y < 2 ^ 31 → y < 2 ^ t → 2 * t < fu → s + 2 * t < 64 → ∃ s', f_X9_commonDivisor_L7 K fu (nI x) (nI y) (nI s) = K (nI (Nat.gcd x y)) (nI 0) s'
  | t, 0, _, _, _, _, _, _, h, _ => by omega
  | 0, fu + 1, x, y, s, hx, hy, h, hf, hs => by
    have h0 : y = 0 := by simpa using h
    rw [f_X9_commonDivisor_L7, show (64 : Int32) = nI 64 from rfl, if_neg (nI_ge (by omega) (by omega)), h0, if_pos (by decide), Nat.gcd_zero_right]
    exact ⟨_, rfl⟩
  | t + 1, 1, x, y, s, hx, hy, h, hf, hs => by omega
  | t + 1, fu + 2, x, y, s, hx, hy, h, hf, hs => by
    rw [f_X9_commonDivisor_L7, show (64 : Int32) = nI 64 from rfl, if_neg (nI_ge (by omega) (by omega))]
    by_cases h0 : y = 0
    · rw [h0, if_pos (by decide), Nat.gcd_zero_right]
      exact ⟨_, rfl⟩
    · have hm := Nat.mod_lt x (show 0 < y by omega)
      rw [if_neg (nI_nle (by omega) hy), qe_rm hx hy (by omega), ob_some, nI_1, f_X9_commonDivisor_L7, show (64 : Int32) = nI 64 from rfl, if_neg (nI_ge (by omega) (by omega))]
      by_cases h1 : x % y = 0
      · rw [if_pos (by rw [h1]; decide), ← gcd_step x y, h1, Nat.gcd_zero_right]
        exact ⟨_, rfl⟩
      · have h2 := half_mod (show 0 < x % y by omega) (Nat.le_of_lt hm)
        have h3 := Nat.mod_lt y (show 0 < x % y by omega)
        rw [Nat.pow_succ] at h
        rw [if_neg (nI_nle (by omega) (by omega)), qe_rm hy (by omega) (by omega), ob_some, nI_1, ← gcd_step x y, ← gcd_step y (x % y)]
        exact e_gcd_L K t fu (x % y) (y % (x % y)) (s + 1 + 1) (by omega) (by omega) (by omega) (by omega) (by omega)
theorem e_gcd {a b : Nat} (ha : a < 2 ^ 31) (hb : b ≤ 120) : f_X9_commonDivisor (nI a) (nI b) = some (nI (Nat.gcd a b)) := by
  unfold f_X9_commonDivisor
  obtain ⟨s', e⟩ := e_gcd_L (fun x _ _ => some x) 7 q_fu a b 0 ha (by omega) (by omega) (fu_lt (by omega)) (by omega)
  exact e
