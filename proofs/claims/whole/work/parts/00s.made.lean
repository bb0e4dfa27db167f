-- ===== what the class's moves make =====
theorem if_iff {α : Type} {p q : Prop} [Decidable p] [Decidable q] {x y : α} (h : p ↔ q) : (if p then x else y) = if q then x else y := by
  by_cases hp : p
  · rw [if_pos hp, if_pos (h.mp hp)]
  · rw [if_neg hp, if_neg (fun hq => hp (h.mpr hq))]
/-- the moves of the class's cells -/
def KS (B : List Nat) (n : Nat) : Prop := Gp n B ∧ B.length ≤ 120
theorem KS_key {B : List Nat} {n j : Nat} (h : KS B n) (hj : j < (srt B).length) : Mv n ((srt B).getD j 0) := h.1.2.1 _ (srt_mem.mp (getD_mem hj))
theorem KS_len {B : List Nat} {n : Nat} (h : KS B n) : (srt B).length ≤ 120 := by rw [srt_len]; exact h.2
theorem Pt_31 {n k P : Nat} (h : Pt n k P) : P < 2 ^ 31 := by have := h.1; omega
theorem e_mvd {n k P K : Nat} (hn : n ≤ 6) (hP : Pt n k P) (hK : Mv n K) : f_X2_moved (nI P) (nI K >>> (1 &&& 31 : Int32)) (nI n) = some (nI (ac n P (K / 2))) := by
  have := Mv_lt hK
  rw [e_row (by omega), e_moved (Pt_31 hP) (by omega) hn (fun p hp => by have := Mv_dg hK hp; omega)]
/-- a hand within bounds -/
def lmI (n P a b : Nat) (L : List Nat) (i : Nat) (v : Option Nat) : Prop :=
  (v = none ∧ ∀ j, j < i → ¬ (a ≤ L.getD j 0 % 2 ∧ L.getD j 0 % 2 ≤ b)) ∨ ∃ w, v = some w ∧ (∃ j, j < i ∧ (a ≤ L.getD j 0 % 2 ∧ L.getD j 0 % 2 ≤ b) ∧ ac n P (L.getD j 0 / 2) = w) ∧ ∀ j, j < i → (a ≤ L.getD j 0 % 2 ∧ L.getD j 0 % 2 ≤ b) → w ≤ ac n P (L.getD j 0 / 2)
def enc (v : Option Nat) : Int32 := match v with
  | none => -1
  | some w => nI w
theorem lmI_skip {n P a b i : Nat} {L : List Nat} {v : Option Nat} (h : lmI n P a b L i v) (hs : ¬ (a ≤ L.getD i 0 % 2 ∧ L.getD i 0 % 2 ≤ b)) : lmI n P a b L (i + 1) v := by
  rcases h with ⟨h1, h2⟩ | ⟨w, h1, ⟨j, h2, h3⟩, h4⟩
  · refine Or.inl ⟨h1, fun j hj => ?_⟩
    rcases Nat.lt_succ_iff_lt_or_eq.mp hj with hj | rfl
    · exact h2 j hj
    · exact hs
  · refine Or.inr ⟨w, h1, ⟨j, by omega, h3⟩, fun j hj hq => ?_⟩
    rcases Nat.lt_succ_iff_lt_or_eq.mp hj with hj | rfl
    · exact h4 j hj hq
    · exact absurd hq hs
theorem lmI_none {n P a b i : Nat} {L : List Nat} (h : lmI n P a b L i none) (hs : a ≤ L.getD i 0 % 2 ∧ L.getD i 0 % 2 ≤ b) : lmI n P a b L (i + 1) (some (ac n P (L.getD i 0 / 2))) := by
  rcases h with ⟨-, h2⟩ | ⟨w, h1, -⟩
  · refine Or.inr ⟨_, rfl, ⟨i, by omega, hs, rfl⟩, fun j hj hq => ?_⟩
    rcases Nat.lt_succ_iff_lt_or_eq.mp hj with hj | rfl
    · exact absurd hq (h2 j hj)
    · exact Nat.le_refl _
  · cases h1
theorem lmI_some {n P a b i w : Nat} {L : List Nat} (h : lmI n P a b L i (some w)) (hs : a ≤ L.getD i 0 % 2 ∧ L.getD i 0 % 2 ≤ b) : lmI n P a b L (i + 1) (some (min w (ac n P (L.getD i 0 / 2)))) := by
  rcases h with ⟨h1, -⟩ | ⟨w2, h1, ⟨j, h2, h3, h4⟩, h5⟩
  · cases h1
  · cases h1
    refine Or.inr ⟨_, rfl, ?_, fun j hj hq => ?_⟩
    · rcases Nat.le_total w (ac n P (L.getD i 0 / 2)) with hle | hle
      · exact ⟨j, by omega, h3, by rw [Nat.min_eq_left hle]; exact h4⟩
      · exact ⟨i, by omega, hs, by rw [Nat.min_eq_right hle]⟩
    · rcases Nat.lt_succ_iff_lt_or_eq.mp hj with hj | rfl
      · exact Nat.le_trans (Nat.min_le_left _ _) (h5 j hj hq)
      · exact Nat.min_le_right _ _
theorem e_leastMade_L {n k P a b : Nat} {B : List Nat} {keys : Nat → Int32} (hn : n ≤ 6) (hk : k ≤ 8) (hP : Pt n k P) (ha : a ≤ 1) (hb : b ≤ 1) (hB : KS B n) (hA : AK keys (srt B)) :
    ∀ d i fu v, i + d = B.length → d < fu → lmI n P a b (srt B) i v → (∀ w, v = some w → w < 2 ^ 31) → ∃ v', lmI n P a b (srt B) B.length v' ∧ f_X5_leastMade_L6 (nI P) (nI a) (nI b) keys (nI B.length) (nI n) (fun l4_1 _ => some l4_1) fu (enc v) (nI i) = some (enc v')
  | d, i, 0, _, _, h, _, _ => by omega
  | 0, i, fu + 1, v, hi, _, hv, _ => by
    have hl := hB.2
    rw [f_X5_leastMade_L6, if_pos (nI_le (by omega) (by omega))]
    exact ⟨v, by rw [show B.length = i by omega]; exact hv, rfl⟩
  | d + 1, i, fu + 1, v, hi, hfu, hv, hw => by
    have hl := hB.2
    have hL := srt_len B
    have hiL : i < (srt B).length := by omega
    have hK := KS_key hB hiL
    have hMd := ac_PtM hn hk hP hK
    rw [f_X5_leastMade_L6, if_neg (nI_ge (by omega) (by omega)), qe_rd _ (by omega) (by decide), ob_some, hA i hiL, e_hand, ob_some, e_mvd hn hP hK, ob_some, nI_1]
    by_cases h1 : (srt B).getD i 0 % 2 < a
    · rw [if_pos (nI_lt h1 (by omega))]
      exact e_leastMade_L hn hk hP ha hb hB hA d (i + 1) fu v (by omega) (by omega) (lmI_skip hv (by omega)) hw
    · rw [if_neg (nI_nlt (by omega) (by omega))]
      by_cases h2 : b < (srt B).getD i 0 % 2
      · rw [if_pos (nI_lt h2 (by omega))]
        exact e_leastMade_L hn hk hP ha hb hB hA d (i + 1) fu v (by omega) (by omega) (lmI_skip hv (by omega)) hw
      · rw [if_neg (nI_nlt (by omega) (by omega))]
        have hs : a ≤ (srt B).getD i 0 % 2 ∧ (srt B).getD i 0 % 2 ≤ b := by omega
        cases v with
        | none =>
          rw [show enc none = -1 from rfl, if_pos m1_lt]
          exact e_leastMade_L hn hk hP ha hb hB hA d (i + 1) fu (some _) (by omega) (by omega) (lmI_none hv hs) (fun w e => by cases e; exact Pt_31 hMd)
        | some w =>
          have hw1 := hw w rfl
          have h31 := Pt_31 hMd
          rw [show enc (some w) = nI w from rfl, if_neg (nI_pos hw1)]
          have hm := lmI_some hv hs
          by_cases hle : w ≤ ac n P ((srt B).getD i 0 / 2)
          · rw [if_pos (nI_le hle h31)]
            rw [Nat.min_eq_left hle] at hm
            exact e_leastMade_L hn hk hP ha hb hB hA d (i + 1) fu (some w) (by omega) (by omega) hm hw
          · rw [if_neg (nI_ge (by omega) hw1)]
            rw [Nat.min_eq_right (by omega)] at hm
            exact e_leastMade_L hn hk hP ha hb hB hA d (i + 1) fu (some _) (by omega) (by omega) hm (fun w e => by cases e; exact h31)
/-- the least that moves of some hands make -/
theorem e_leastMade {n k P a b : Nat} {B : List Nat} {keys : Nat → Int32} (hn : n ≤ 6) (hk : k ≤ 8) (hP : Pt n k P) (ha : a ≤ 1) (hb : b ≤ 1) (hB : KS B n) (hA : AK keys (srt B)) :
    (∃ w, f_X5_leastMade (nI P) (nI a) (nI b) keys (nI B.length) (nI n) = some (nI w) ∧ (∃ K ∈ B, (a ≤ K % 2 ∧ K % 2 ≤ b) ∧ ac n P (K / 2) = w) ∧ ∀ K ∈ B, (a ≤ K % 2 ∧ K % 2 ≤ b) → w ≤ ac n P (K / 2)) ∨
    (f_X5_leastMade (nI P) (nI a) (nI b) keys (nI B.length) (nI n) = some (-1) ∧ ∀ K ∈ B, ¬ (a ≤ K % 2 ∧ K % 2 ≤ b)) := by
  have hl := hB.2
  have hL := srt_len B
  obtain ⟨v, hv, e⟩ := e_leastMade_L hn hk hP ha hb hB hA B.length 0 q_fu none (by omega) (fu_lt (by omega)) (Or.inl ⟨rfl, fun j hj => by omega⟩) (fun w h => by cases h)
  unfold f_X5_leastMade
  have hall : ∀ {Q : Nat → Prop}, (∀ j, j < B.length → Q ((srt B).getD j 0)) → ∀ K ∈ B, Q K := by
    intro Q h K hK
    obtain ⟨j, hj, e⟩ := mem_getD (srt_mem.mpr hK)
    rw [← e]
    exact h j (by omega)
  rcases hv with ⟨rfl, h2⟩ | ⟨w, rfl, ⟨j, h2, h3, h4⟩, h5⟩
  · exact Or.inr ⟨e, hall (Q := fun K => ¬ (a ≤ K % 2 ∧ K % 2 ≤ b)) h2⟩
  · exact Or.inl ⟨w, e, ⟨_, srt_mem.mp (getD_mem (show j < (srt B).length by omega)), h3, h4⟩, hall (Q := fun K => (a ≤ K % 2 ∧ K % 2 ≤ b) → w ≤ ac n P (K / 2)) h5⟩
/-- the moves by 0, by 1 -/
def BY (by_ : Nat) (B : List Nat) : List Nat := if by_ = 0 then B0 B else B
theorem BY_mem {b K : Nat} {B : List Nat} (hb : b ≤ 1) : K ∈ BY b B ↔ K ∈ B ∧ K % 2 ≤ b := by
  unfold BY
  split
  · rename_i h
    subst h
    rw [B0_mem]
    exact and_congr_right (fun _ => by omega)
  · exact ⟨fun h => ⟨h, by omega⟩, fun h => h.1⟩
theorem BY_Gp {n b : Nat} {B : List Nat} (h : Gp n B) : Gp n (BY b B) := by
  unfold BY
  split
  · exact B0_Gp h
  · exact h
theorem BY_cnt {b : Nat} {B : List Nat} (hb : b ≤ 1) (f : Nat → Bool) : (BY b B).countP f = B.countP (fun K => decide (K % 2 ≤ b) && f K) := by
  unfold BY
  split
  · rename_i h
    subst h
    rw [B0, List.countP_filter]
    refine List.countP_congr (fun K _ => ?_)
    simp only [Bool.and_eq_true, decide_eq_true_eq]
    exact ⟨fun h => ⟨by omega, h.1⟩, fun h => ⟨h.2, by omega⟩⟩
  · refine List.countP_congr (fun K _ => ?_)
    simp only [Bool.and_eq_true, decide_eq_true_eq]
    exact ⟨fun h => ⟨by omega, h⟩, fun h => h.2⟩
theorem BY_len {b : Nat} {B : List Nat} : (BY b B).length ≤ B.length := by
  unfold BY
  split
  · exact List.length_filter_le _ _
  · exact Nat.le_refl _
theorem e_least {n k P b : Nat} {B : List Nat} {keys : Nat → Int32} (hn : n ≤ 6) (hk : k ≤ 8) (hP : Pt n k P) (hb : b ≤ 1) (hB : KS B n) (hA : AK keys (srt B)) : f_X5_leastMade (nI P) 0 (nI b) keys (nI B.length) (nI n) = some (nI (lst n P (BY b B))) := by
  rcases e_leastMade (a := 0) hn hk hP (by omega) hb hB hA with ⟨w, e, ⟨K, hK, h1, h2⟩, h3⟩ | ⟨e, h⟩
  · rw [show (0 : Int32) = nI 0 from rfl, e, lst_one hn (BY_Gp hB.1) hP ⟨K, (BY_mem hb).mpr ⟨hK, h1.2⟩, h2⟩ (fun J hJ => h3 J ((BY_mem hb).mp hJ).1 ⟨Nat.zero_le _, ((BY_mem hb).mp hJ).2⟩)]
  · exact absurd ⟨Nat.zero_le _, by rw [one_mod]; omega⟩ (h (one n) hB.1.2.2.1)
theorem e_other {n k P m : Nat} {B : List Nat} {keys : Nat → Int32} (hn : n ≤ 6) (hk : k ≤ 8) (hP : Pt n k P) (hB : KS B n) (hA : AK keys (srt B)) (hm : m ∈ B) (hm2 : m % 2 = 1) : f_X5_leastMade (nI P) 1 1 keys (nI B.length) (nI n) = some (nI (oth n m P B)) := by
  rcases e_leastMade (a := 1) (b := 1) hn hk hP (by omega) (by omega) hB hA with ⟨w, e, ⟨K, hK, h1, h2⟩, h3⟩ | ⟨e, h⟩
  · have : w = oth n m P B := by
      obtain ⟨J, hJ, hJ2, e2⟩ := oth_is hn hk hB.1 hm hm2 hP
      refine Nat.le_antisymm ?_ ?_
      · rw [← e2]; exact h3 J hJ (by omega)
      · rw [← h2]; exact oth_le hn hB.1 hm hm2 hK (by omega) hP
    rw [← this]
    exact e
  · exact absurd (by omega) (h m hm)
theorem e_other_no {n k P : Nat} {B : List Nat} {keys : Nat → Int32} (hn : n ≤ 6) (hk : k ≤ 8) (hP : Pt n k P) (hB : KS B n) (hA : AK keys (srt B)) (hm : ∀ m ∈ B, m % 2 = 0) : f_X5_leastMade (nI P) 1 1 keys (nI B.length) (nI n) = some (-1) := by
  rcases e_leastMade (a := 1) (b := 1) hn hk hP (by omega) (by omega) hB hA with ⟨w, e, ⟨K, hK, h1, h2⟩, h3⟩ | ⟨e, h⟩
  · have := hm K hK
    omega
  · exact e
-- how many leave it
theorem drop_cons {L : List Nat} {i : Nat} (h : i < L.length) : L.drop i = L.getD i 0 :: L.drop (i + 1) := by
  rw [List.drop_eq_getElem_cons h, List.getD_eq_getElem?_getD, List.getElem?_eq_getElem h]
  rfl
theorem e_howManyMade_L {n k P b : Nat} {B : List Nat} {keys : Nat → Int32} (hn : n ≤ 6) (hP : Pt n k P) (hb : b ≤ 1) (hB : KS B n) (hA : AK keys (srt B)) (KK : Int32 → Int32 → Option Int32) :
    ∀ d i fu c, i + d = B.length → d < fu → f_X5_howManyMade_L5 (nI P) (nI b) keys (nI B.length) (nI n) KK fu (nI c) (nI i) = KK (nI (c + ((srt B).drop i).countP (fun K => decide (K % 2 ≤ b) && decide (ac n P (K / 2) = P)))) (nI B.length)
  | d, i, 0, _, _, h => by omega
  | 0, i, fu + 1, c, hi, _ => by
    have hl := hB.2
    have hL := srt_len B
    rw [f_X5_howManyMade_L5, if_pos (nI_le (by omega) (by omega)), List.drop_eq_nil_of_le (by omega), show i = B.length by omega]
    rfl
  | d + 1, i, fu + 1, c, hi, hfu => by
    have hl := hB.2
    have hL := srt_len B
    have hiL : i < (srt B).length := by omega
    have hK := KS_key hB hiL
    have hMd := ac_Pt hn (by omega) (k := 8) ⟨hP.1, fun p _ => dg_lt _ _, hP.2.2⟩ hK.1.2.1
    rw [f_X5_howManyMade_L5, if_neg (nI_ge (by omega) (by omega)), qe_rd _ (by omega) (by decide), ob_some, hA i hiL, e_hand, ob_some, e_mvd hn hP hK, ob_some, nI_1, nI_1, drop_cons hiL, List.countP_cons]
    by_cases h1 : b < (srt B).getD i 0 % 2
    · rw [if_pos (nI_lt h1 (by omega)), e_howManyMade_L hn hP hb hB hA KK d (i + 1) fu c (by omega) (by omega), if_neg (fun z => by rw [Bool.and_eq_true, decide_eq_true_eq] at z; omega)]
      rfl
    · rw [if_neg (nI_nlt (by omega) (by omega))]
      by_cases h2 : ac n P ((srt B).getD i 0 / 2) = P
      · rw [if_pos (by rw [h2]), e_howManyMade_L hn hP hb hB hA KK d (i + 1) fu (c + 1) (by omega) (by omega), if_pos (by rw [Bool.and_eq_true, decide_eq_true_eq, decide_eq_true_eq]; exact ⟨by omega, h2⟩)]
        congr 2
        omega
      · rw [if_neg (fun z => h2 (nI_inj (Pt_31 hMd) (Pt_31 hP) z)), e_howManyMade_L hn hP hb hB hA KK d (i + 1) fu c (by omega) (by omega), if_neg (fun z => by rw [Bool.and_eq_true, decide_eq_true_eq, decide_eq_true_eq] at z; exact h2 z.2)]
        rfl
theorem stay_pos {n k P : Nat} {B : List Nat} (hn : n ≤ 6) (h : Gp n B) (hP : Pt n k P) : 0 < B.countP (fun K => decide (ac n P (K / 2) = P)) := by
  rw [List.countP_pos_iff]
  exact ⟨one n, h.2.2.1, decide_eq_true (ac_one hn hP)⟩
/-- how many a class has -/
def siz (n P : Nat) (B : List Nat) : Nat := B.length / B.countP (fun K => decide (ac n P (K / 2) = P))
theorem BY_lenI {b : Nat} {B : List Nat} (hb : b ≤ 1) : (if nI b = (0 : Int32) then nI (B.countP (fun K => decide (K % 2 = 0))) else nI B.length) = nI (BY b B).length := by
  rcases (show b = 0 ∨ b = 1 by omega) with rfl | rfl
  · rw [if_pos (show nI 0 = (0 : Int32) from rfl), BY, if_pos rfl, B0, List.countP_eq_length_filter]
  · rw [if_neg (by decide), BY, if_neg (by decide)]
theorem e_howManyMade {n k P b : Nat} {B : List Nat} {keys : Nat → Int32} (hn : n ≤ 6) (hP : Pt n k P) (hb : b ≤ 1) (hB : KS B n) (hA : AK keys (srt B)) : f_X5_howManyMade (nI P) (nI b) keys (nI B.length) (nI (B.countP (fun K => decide (K % 2 = 0)))) (nI n) = some (nI (siz n P (BY b B))) := by
  unfold f_X5_howManyMade
  have h := e_howManyMade_L hn hP hb hB hA (fun l3_1 _ => if l3_1 ≤ 0 then (some (0)) else ((f_X5_howManyBy (nI b) (nI B.length) (nI (B.countP (fun K => decide (K % 2 = 0))))).bind fun t3 => (q_dv t3 l3_1).bind fun t4 => some (t4))) B.length 0 q_fu 0 (by omega) (fu_lt (by have := hB.2; omega))
  refine h.trans ?_
  have hc : ((srt B).drop 0).countP (fun K => decide (K % 2 ≤ b) && decide (ac n P (K / 2) = P)) = (BY b B).countP (fun K => decide (ac n P (K / 2) = P)) := by
    rw [List.drop_zero, (srt_perm B).countP_eq, BY_cnt hb]
  rw [Nat.zero_add, hc]
  have hp := stay_pos hn (BY_Gp (b := b) hB.1) hP
  have hl : (BY b B).countP (fun K => decide (ac n P (K / 2) = P)) ≤ (BY b B).length := List.countP_le_length
  have hl2 := BY_len (b := b) (B := B)
  have hl3 := hB.2
  rw [if_neg (nI_nle hp (by omega))]
  unfold f_X5_howManyBy
  have e1 : (if nI b = (0 : Int32) then (some (nI (B.countP (fun K => decide (K % 2 = 0))))) else (some (nI B.length))) = some (nI (BY b B).length) := by
    rw [← BY_lenI hb]
    split <;> rfl
  rw [e1, ob_some, qe_dv (by omega) (by omega) hp, ob_some, siz]
-- whether they make another
theorem e_makes_L {n k j P Q b : Nat} {B : List Nat} {keys : Nat → Int32} (hn : n ≤ 6) (hk : k ≤ 8) (hP : Pt n k P) (hQ : Pt n j Q) (hb : b ≤ 1) (hB : KS B n) (hA : AK keys (srt B)) :
    ∀ d i fu, i + d = B.length → d < fu → f_X5_makes_L3 (nI P) (nI Q) (nI b) keys (nI B.length) (nI n) (fun _ => some 0) fu (nI i) = some (if ∃ K ∈ (srt B).drop i, K % 2 ≤ b ∧ ac n P (K / 2) = Q then 1 else 0)
  | d, i, 0, _, h => by omega
  | 0, i, fu + 1, hi, _ => by
    have hl := hB.2
    have hL := srt_len B
    rw [f_X5_makes_L3, if_pos (nI_le (by omega) (by omega)), List.drop_eq_nil_of_le (by omega), if_neg]
    rintro ⟨K, hK, -⟩
    cases hK
  | d + 1, i, fu + 1, hi, hfu => by
    have hl := hB.2
    have hL := srt_len B
    have hiL : i < (srt B).length := by omega
    have hK := KS_key hB hiL
    have hMd := ac_PtM hn hk hP hK
    rw [f_X5_makes_L3, if_neg (nI_ge (by omega) (by omega)), qe_rd _ (by omega) (by decide), ob_some, hA i hiL, e_hand, ob_some, e_mvd hn hP hK, ob_some, nI_1, drop_cons hiL]
    have hex : (∃ K ∈ (srt B).getD i 0 :: (srt B).drop (i + 1), K % 2 ≤ b ∧ ac n P (K / 2) = Q) ↔ ((srt B).getD i 0 % 2 ≤ b ∧ ac n P ((srt B).getD i 0 / 2) = Q) ∨ ∃ K ∈ (srt B).drop (i + 1), K % 2 ≤ b ∧ ac n P (K / 2) = Q := by
      simp only [List.mem_cons, exists_eq_or_imp]
    by_cases h1 : b < (srt B).getD i 0 % 2
    · rw [if_pos (nI_lt h1 (by omega)), e_makes_L hn hk hP hQ hb hB hA d (i + 1) fu (by omega) (by omega)]
      congr 1
      refine if_iff ?_
      rw [hex]
      exact ⟨Or.inr, fun h => h.resolve_left (fun q => by omega)⟩
    · rw [if_neg (nI_nlt (by omega) (by omega))]
      by_cases h2 : ac n P ((srt B).getD i 0 / 2) = Q
      · rw [if_pos (by rw [h2]), if_pos (hex.mpr (Or.inl ⟨by omega, h2⟩))]
      · rw [if_neg (fun z => h2 (nI_inj (Pt_31 hMd) (Pt_31 hQ) z)), e_makes_L hn hk hP hQ hb hB hA d (i + 1) fu (by omega) (by omega)]
        congr 1
        refine if_iff ?_
        rw [hex]
        exact ⟨Or.inr, fun h => h.resolve_left (fun q => h2 q.2)⟩
theorem e_makes {n k P Q b : Nat} {B : List Nat} {keys : Nat → Int32} (hn : n ≤ 6) (hk : k ≤ 8) (hP : Pt n k P) (hQ : Pt n k Q) (hb : b ≤ 1) (hB : KS B n) (hA : AK keys (srt B)) : f_X5_makes (nI P) (nI Q) (nI b) keys (nI B.length) (nI n) = some (if lst n P (BY b B) = lst n Q (BY b B) then 1 else 0) := by
  unfold f_X5_makes
  have h := e_makes_L hn hk hP hQ hb hB hA B.length 0 q_fu (by omega) (fu_lt (by have := hB.2; omega))
  refine h.trans ?_
  congr 1
  refine if_iff ?_
  rw [← lst_same hn hk (BY_Gp hB.1) hP hQ, List.drop_zero]
  constructor
  · rintro ⟨K, hK, h1, h2⟩
    exact ⟨K, (BY_mem hb).mpr ⟨srt_mem.mp hK, h1⟩, h2⟩
  · rintro ⟨K, hK, h1⟩
    have := (BY_mem hb).mp hK
    exact ⟨K, srt_mem.mpr this.1, this.2, h1⟩
-- the first move leaves all
theorem idr_least {n r : Nat} (hn : n ≤ 6) (hr : Rw n r) : idr n ≤ r := by
  by_cases he : ∃ p, p < n ∧ dg r p ≠ p
  · obtain ⟨p, hp, h1, h2⟩ := fb_first he
    have h3 : ∀ q, q < p → dg r q = q := fun q hq => Classical.not_not.mp (h2 q hq)
    have h4 : p < dg r p := by
      rcases Nat.lt_trichotomy (dg r p) p with h | h | h
      · have := hr.2 (dg r p) p (by omega) hp (h3 _ h)
        omega
      · exact absurd h h1
      · exact h
    refine Nat.le_of_lt ?_
    rw [Pt_ord (b := 8) hn (by omega) (by omega) (idr_Rw hn).1 hr.1]
    refine cb_lex (p := p) (fun q _ => ⟨dg_lt _ _, dg_lt _ _⟩) hp (fun q hq => ?_) ?_
    · rw [idr_dg hn (by omega), h3 q hq]
    · rw [idr_dg hn hp]; exact h4
  · refine Nat.le_of_eq ((idr_Rw hn).1.ext hr.1 (fun p hp => ?_))
    rw [idr_dg hn hp]
    exact (Classical.not_not.mp (fun h => he ⟨p, hp, h⟩)).symm
theorem first_one {n : Nat} {B : List Nat} (hn : n ≤ 6) (hB : Gp n B) : (srt B).getD 0 0 = one n := by
  have hS := srt_SI hB.1
  obtain ⟨j, hj, e⟩ := mem_getD (srt_mem.mpr hB.2.2.1)
  have h0 : 0 < (srt B).length := by omega
  have hM := hB.2.1 _ (srt_mem.mp (getD_mem h0))
  have hle : one n ≤ (srt B).getD 0 0 := by
    have := idr_least hn hM
    unfold one
    omega
  rcases Nat.eq_zero_or_pos j with rfl | hp
  · exact e
  · have := hS 0 j hp hj
    omega
theorem e_isLeast_L {n k P b : Nat} {B : List Nat} {keys : Nat → Int32} (h1n : 1 ≤ n) (hn : n ≤ 6) (hk : k ≤ 8) (hP : Pt n k P) (hb : b ≤ 1) (hB : KS B n) (hA : AK keys (srt B)) :
    ∀ d i fu, i + d = B.length → d < fu → f_X5_isLeast_L2 (nI P) (nI b) keys (nI B.length) (nI n) (fun _ => some 1) fu (nI i) = some (if ∀ K ∈ (srt B).drop i, K % 2 ≤ b → P ≤ ac n P (K / 2) then 1 else 0)
  | d, i, 0, _, h => by omega
  | 0, i, fu + 1, hi, _ => by
    have hl := hB.2
    have hL := srt_len B
    rw [f_X5_isLeast_L2, if_pos (nI_le (by omega) (by omega)), List.drop_eq_nil_of_le (by omega), if_pos]
    intro K hK
    cases hK
  | d + 1, i, fu + 1, hi, hfu => by
    have hl := hB.2
    have hL := srt_len B
    have hiL : i < (srt B).length := by omega
    have hK := KS_key hB hiL
    have hK2 := Mv_lt hK
    rw [f_X5_isLeast_L2, if_neg (nI_ge (by omega) (by omega)), qe_rd _ (by omega) (by decide), ob_some, hA i hiL, e_hand, ob_some, e_row (by omega), e_becomesLess h1n hn hk hP hK, ob_some, nI_1, drop_cons hiL]
    have hex : (∀ K ∈ (srt B).getD i 0 :: (srt B).drop (i + 1), K % 2 ≤ b → P ≤ ac n P (K / 2)) ↔ ((srt B).getD i 0 % 2 ≤ b → P ≤ ac n P ((srt B).getD i 0 / 2)) ∧ ∀ K ∈ (srt B).drop (i + 1), K % 2 ≤ b → P ≤ ac n P (K / 2) := by
      simp only [List.forall_mem_cons]
    by_cases h1 : b < (srt B).getD i 0 % 2
    · rw [if_pos (nI_lt h1 (by omega)), e_isLeast_L h1n hn hk hP hb hB hA d (i + 1) fu (by omega) (by omega)]
      congr 1
      refine if_iff ?_
      rw [hex]
      exact ⟨fun h => ⟨fun q => by omega, h⟩, fun h => h.2⟩
    · rw [if_neg (nI_nlt (by omega) (by omega))]
      by_cases h2 : ac n P ((srt B).getD i 0 / 2) < P
      · rw [if_pos h2, if_neg (show ¬ (1 : Int32) = 0 by decide), if_neg]
        rw [hex]
        intro h
        have := h.1 (by omega)
        omega
      · rw [if_neg h2, if_pos rfl, e_isLeast_L h1n hn hk hP hb hB hA d (i + 1) fu (by omega) (by omega)]
        congr 1
        refine if_iff ?_
        rw [hex]
        exact ⟨fun h => ⟨fun q => by omega, h⟩, fun h => h.2⟩
theorem e_isLeast {n k P b : Nat} {B : List Nat} {keys : Nat → Int32} (h1n : 1 ≤ n) (hn : n ≤ 6) (hk : k ≤ 8) (hP : Pt n k P) (hb : b ≤ 1) (hB : KS B n) (hA : AK keys (srt B)) : f_X5_isLeast (nI P) (nI b) keys (nI B.length) (nI n) = some (if lst n P (BY b B) = P then 1 else 0) := by
  unfold f_X5_isLeast
  have hL := srt_len B
  have hpos : 0 < B.length := List.length_pos_of_mem hB.1.2.2.1
  have h := e_isLeast_L h1n hn hk hP hb hB hA (B.length - 1) 1 q_fu (by omega) (fu_lt (by have := hB.2; omega))
  refine h.trans ?_
  congr 1
  refine if_iff ?_
  rw [lst_fix hn (BY_Gp hB.1) hP]
  have e0 : srt B = one n :: (srt B).drop 1 := by
    have := drop_cons (L := srt B) (i := 0) (by omega)
    rwa [List.drop_zero, first_one hn hB.1] at this
  constructor
  · intro h K hK
    have hK := (BY_mem hb).mp hK
    have hK1 := srt_mem.mpr hK.1
    rw [e0] at hK1
    rcases List.mem_cons.mp hK1 with rfl | hK1
    · rw [ac_one hn hP]; exact Nat.le_refl _
    · exact h K hK1 hK.2
  · intro h K hK hq
    refine h K ((BY_mem hb).mpr ⟨srt_mem.mp ?_, hq⟩)
    rw [e0]
    exact List.mem_cons_of_mem _ hK
