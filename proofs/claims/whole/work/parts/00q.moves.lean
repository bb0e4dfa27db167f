-- ===== the class's moves =====
theorem e_nextPainting {n k i : Nat} (h2 : 2 ≤ n) (h6 : n ≤ 6) (hk : 1 ≤ k) (hk4 : k ≤ 4) (hi : i < k ^ n) : f_X2_nextPainting (nI (pt n k i)) (nI n) (nI k) = some (nI (pt n k (i + 1))) := by
  have h : nxt n k = true := by
    rcases (show n = 2 ∨ n = 3 ∨ n = 4 ∨ n = 5 ∨ n = 6 by omega) with rfl | rfl | rfl | rfl | rfl
    · exact nxt_2 k (by omega) hk
    · exact nxt_3 k (by omega) hk
    · exact nxt_4 k (by omega) hk
    · exact nxt_5 k (by omega) hk
    · exact nxt_6 k (by omega) hk
  unfold nxt at h
  rw [List.all_eq_true] at h
  exact of_decide_eq_true (h i (List.mem_range.mpr hi))
theorem typ_cong_wk {r s : Nat → Nat} {n : Nat} (h : ∀ p, p < n → r p = s p) (hr : ∀ p, p < n → r p < n) : ∀ f m q, q < n → wk r f m q = wk s f m q
  | 0, _, _, _ => rfl
  | f + 1, m, q, hq => by
    rw [wk, wk, h q hq]
    have h1 := typ_cong_wk h hr f (m ||| 2 ^ q) (s q) (by rw [← h q hq]; exact hr q hq)
    rw [h1]
theorem lens_cong {r s : Nat → Nat} {n : Nat} (h : ∀ p, p < n → r p = s p) (hr : ∀ p, p < n → r p < n) : ∀ m, m ≤ n → lens r m = lens s m
  | 0, _ => rfl
  | m + 1, hm => by rw [lens, lens, lens_cong h hr m (by omega), typ_cong_wk h hr 6 _ m (by omega)]
theorem e_cycleType {n r : Nat} (h2 : 2 ≤ n) (h6 : n ≤ 6) (hr : Rw n r) : f_X2_cycleType (nI r) (nI n) = some (nI (typ n (rwf n r))) := by
  have hn : (rwl n r).Nodup := by
    refine nd_map List.nodup_range (fun x hx y hy e => hr.2 x y (List.mem_range.mp hx) (List.mem_range.mp hy) e)
  have hl : (rwl n r).length = n := by simp [rwl]
  have hd : ∀ d ∈ rwl n r, d < n := by
    intro d hd
    obtain ⟨p, hp, rfl⟩ := List.mem_map.mp hd
    exact hr.1.2.1 p (List.mem_range.mp hp)
  have hg : goP n (cyc n) n [] = true := by
    rcases (show n = 2 ∨ n = 3 ∨ n = 4 ∨ n = 5 ∨ n = 6 by omega) with rfl | rfl | rfl | rfl | rfl
    · exact cyc_2
    · exact cyc_3
    · exact cyc_4
    · exact cyc_5
    · exact cyc_6
  have h := of_decide_eq_true (goP_ok n [] (rwl n r) hl hn hd hg)
  have e : pak n (fun p => (rwl n r).getD p 0) = r := by
    rw [pak_cong (f := fun p => (rwl n r).getD p 0) (g := dg r) (fun p hp => rwf_lt hp)]
    exact hr.1.eta h6
  rw [List.nil_append, e] at h
  exact h
theorem Mv_lt {n K : Nat} (h : Mv n K) : K < 524288 := by
  have := h.1.1
  omega
theorem Mv_dg {n K p : Nat} (h : Mv n K) (hp : p < n) : dg (K / 2) p < n := h.1.2.1 p hp
theorem e_row {K : Nat} (h : K < 2 ^ 31) : nI K >>> (1 &&& 31 : Int32) = nI (K / 2) := by
  rw [show (1 &&& 31 : Int32) = nI 1 from by decide, nI_shr h (by decide)]
theorem e_hand (K : Nat) : nI K &&& 1 = nI (K % 2) := by rw [li_1, show (1 : Nat) = 2 ^ 1 - 1 from rfl, fa_mask]
theorem xor_2 (a b : Nat) : (a ^^^ b) % 2 = (a + b) % 2 := by
  have h := Nat.xor_mod_two_pow (a := a) (b := b) (n := 1)
  rw [Nat.pow_one] at h
  rw [h, Nat.add_mod]
  rcases Nat.mod_two_eq_zero_or_one a with e | e <;> rcases Nat.mod_two_eq_zero_or_one b with e2 | e2 <;> rw [e, e2] <;> rfl
theorem e_behind {n x g : Nat} (hn : n ≤ 6) (hx : Mv n x) (hg : Mv n g) : f_X5_behind (nI x) (nI g) (nI n) = some (nI (mu n x g)) := by
  unfold f_X5_behind
  have h1 := Mv_lt hx
  have h2 := Mv_lt hg
  rw [e_row (by omega), e_row (by omega), e_moved (by omega) (by omega) hn (fun p hp => by have := Mv_dg hg hp; omega), ob_some, nI_xor, e_hand, xor_2, show (1 &&& 31 : Int32) = nI 1 from by decide, nI_shl _ (by decide), nI_or, mu, Nat.mul_comm, or_low (k := 1) (by omega)]
-- rows of numbers
def AK (a : Nat → Int32) (L : List Nat) : Prop := ∀ j, j < L.length → a j = nI (L.getD j 0)
def SI (L : List Nat) : Prop := ∀ i j, i < j → j < L.length → L.getD i 0 < L.getD j 0
def srt (B : List Nat) : List Nat := B.mergeSort (fun a b => decide (a ≤ b))
theorem srt_perm (B : List Nat) : (srt B).Perm B := List.mergeSort_perm B _
theorem SI_pw {L : List Nat} (h : SI L) : L.Pairwise (· ≤ ·) := by
  rw [List.pairwise_iff_getElem]
  intro i j hi hj hij
  have := h i j hij hj
  rw [List.getD_eq_getElem?_getD, List.getD_eq_getElem?_getD, List.getElem?_eq_getElem hi, List.getElem?_eq_getElem hj] at this
  exact Nat.le_of_lt this
theorem srt_one {L B : List Nat} (h : SI L) (hp : L.Perm B) : L = srt B := by
  refine List.Perm.eq_of_pairwise (le := (· ≤ ·)) (fun a b _ _ h1 h2 => Nat.le_antisymm h1 h2) (SI_pw h) ?_ (hp.trans (srt_perm B).symm)
  have := List.pairwise_mergeSort (le := fun a b : Nat => decide (a ≤ b)) (fun a b c h1 h2 => by simp at h1 h2 ⊢; omega) (fun a b => by simp; omega) B
  exact this.imp (fun h => of_decide_eq_true h)
theorem srt_SI {B : List Nat} (h : B.Nodup) : SI (srt B) := by
  have hn : (srt B).Nodup := (srt_perm B).symm.nodup h
  have hs := List.pairwise_mergeSort (le := fun a b : Nat => decide (a ≤ b)) (fun a b c h1 h2 => by simp at h1 h2 ⊢; omega) (fun a b => by simp; omega) B
  intro i j hij hj
  have hi : i < (srt B).length := by omega
  have h1 := List.pairwise_iff_getElem.mp hs i j hi hj hij
  have h2 := List.pairwise_iff_getElem.mp hn i j hi hj hij
  rw [List.getD_eq_getElem?_getD, List.getD_eq_getElem?_getD, List.getElem?_eq_getElem hi, List.getElem?_eq_getElem hj]
  have h1 : (srt B)[i] ≤ (srt B)[j] := of_decide_eq_true h1
  show (srt B)[i] < (srt B)[j]
  omega
theorem srt_len (B : List Nat) : (srt B).length = B.length := (srt_perm B).length_eq
theorem srt_mem {B : List Nat} {x : Nat} : x ∈ srt B ↔ x ∈ B := (srt_perm B).mem_iff
def put (L : List Nat) (i x : Nat) : List Nat := L.take i ++ x :: L.drop i
theorem put_perm (L : List Nat) (i x : Nat) : (put L i x).Perm (x :: L) := by
  unfold put
  refine List.perm_middle.trans ?_
  rw [List.take_append_drop]
theorem put_lt {L : List Nat} {i x j : Nat} (hi : i ≤ L.length) (h : j < i) : (put L i x).getD j 0 = L.getD j 0 := by
  rw [put, List.getD_eq_getElem?_getD, List.getD_eq_getElem?_getD, List.getElem?_append_left (by rw [List.length_take]; omega), List.getElem?_take, if_pos h]
theorem put_eq {L : List Nat} {i x : Nat} (hi : i ≤ L.length) : (put L i x).getD i 0 = x := by
  rw [put, List.getD_eq_getElem?_getD, List.getElem?_append_right (by rw [List.length_take]; omega), List.length_take, show i - min i L.length = 0 by omega]
  rfl
theorem put_gt {L : List Nat} {i x j : Nat} (hi : i ≤ L.length) (h : i < j) : (put L i x).getD j 0 = L.getD (j - 1) 0 := by
  rw [put, List.getD_eq_getElem?_getD, List.getD_eq_getElem?_getD, List.getElem?_append_right (by rw [List.length_take]; omega), List.length_take, show j - min i L.length = (j - 1 - i) + 1 by omega, List.getElem?_cons_succ, List.getElem?_drop]
  congr 2
  omega
theorem put_len (L : List Nat) (i x : Nat) : (put L i x).length = L.length + 1 := (put_perm L i x).length_eq
theorem put_SI {L : List Nat} {i x : Nat} (hi : i ≤ L.length) (hL : SI L) (h1 : ∀ j, j < i → L.getD j 0 < x) (h2 : ∀ j, i ≤ j → j < L.length → x < L.getD j 0) : SI (put L i x) := by
  intro a b hab hb
  rw [put_len] at hb
  rcases Nat.lt_trichotomy b i with h | h | h
  · rw [put_lt hi h, put_lt hi (by omega)]
    exact hL a b hab (by omega)
  · subst h
    rw [put_eq hi, put_lt hi hab]
    exact h1 a hab
  · rw [put_gt hi h]
    rcases Nat.lt_trichotomy a i with g | g | g
    · rw [put_lt hi g]
      exact hL a (b - 1) (by omega) (by omega)
    · subst g
      rw [put_eq hi]
      exact h2 (b - 1) (by omega) (by omega)
    · rw [put_gt hi g]
      exact hL (a - 1) (b - 1) (by omega) (by omega)
/-- the search by halves -/
theorem e_placeOf_L {keys : Nat → Int32} {L : List Nat} {key : Nat} (hA : AK keys L) (hS : SI L) (hl : L.length ≤ 120) (hk : key < 2 ^ 31) (hb : ∀ j, j < L.length → L.getD j 0 < 2 ^ 31) : ∀ s fu low high, s ≤ 8 → s < fu → low ≤ high → high ≤ L.length → high - low < 2 ^ s → (∀ j, j < low → L.getD j 0 < key) → (∀ j, high ≤ j → j < L.length → key ≤ L.getD j 0) →
    ∃ a, f_X5_placeOf_L10 (nI key) keys (fun l2_1 _ _ => some l2_1) fu (nI low) (nI high) (nI (8 - s)) = some (nI a) ∧ a ≤ L.length ∧ (∀ j, j < a → L.getD j 0 < key) ∧ (∀ j, a ≤ j → j < L.length → key ≤ L.getD j 0)
  | s, 0, _, _, _, h, _, _, _, _, _ => by omega
  | 0, fu + 1, low, high, _, _, h1, h2, h3, h4, h5 => by
    rw [f_X5_placeOf_L10, li_8, if_pos (nI_le (by omega) (by omega))]
    have : low = high := by simp at h3; omega
    subst this
    exact ⟨low, rfl, by omega, h4, h5⟩
  | s + 1, fu + 1, low, high, hs, hfu, h1, h2, h3, h4, h5 => by
    rw [f_X5_placeOf_L10, li_8, if_neg (nI_ge (by omega) (by omega))]
    by_cases hlh : high ≤ low
    · rw [if_pos (nI_le hlh (by omega))]
      have : low = high := by omega
      subst this
      exact ⟨low, rfl, by omega, h4, h5⟩
    · have hmid : (low + high) / 2 < L.length := by omega
      rw [if_neg (nI_ge (by omega) (by omega)), nI_add, e_row (by omega), qe_rd _ (by omega) (by decide), ob_some, hA _ hmid, nI_1, nI_1]
      have hp : 2 ^ (s + 1) = 2 ^ s + 2 ^ s := by rw [Nat.pow_succ]; omega
      have e8 : 8 - (s + 1) + 1 = 8 - s := by omega
      rw [e8]
      by_cases hc : key ≤ L.getD ((low + high) / 2) 0
      · rw [if_pos ((nI_leI hk (hb _ hmid)).mpr hc)]
        refine e_placeOf_L hA hS hl hk hb s fu low _ (by omega) (by omega) (by omega) (by omega) (by omega) h4 (fun j hj hjl => ?_)
        rcases Nat.lt_or_ge ((low + high) / 2) j with h | h
        · exact Nat.le_trans hc (Nat.le_of_lt (hS _ _ h hjl))
        · rw [show j = (low + high) / 2 by omega]; exact hc
      · rw [if_neg (fun z => hc ((nI_leI hk (hb _ hmid)).mp z))]
        refine e_placeOf_L hA hS hl hk hb s fu _ high (by omega) (by omega) (by omega) (by omega) (by omega) (fun j hj => ?_) h5
        rcases Nat.lt_or_ge j ((low + high) / 2) with h | h
        · have := hS _ _ h hmid
          omega
        · rw [show j = (low + high) / 2 by omega]; omega
theorem e_placeOf {keys : Nat → Int32} {L : List Nat} {key : Nat} (hA : AK keys L) (hS : SI L) (hl : L.length ≤ 120) (hk : key < 2 ^ 31) (hb : ∀ j, j < L.length → L.getD j 0 < 2 ^ 31) :
    ∃ a, f_X5_placeOf (nI key) keys (nI L.length) = some (nI a) ∧ a ≤ L.length ∧ (∀ j, j < a → L.getD j 0 < key) ∧ (∀ j, a ≤ j → j < L.length → key ≤ L.getD j 0) := by
  unfold f_X5_placeOf
  exact e_placeOf_L hA hS hl hk hb 8 q_fu 0 L.length (Nat.le_refl _) (fu_lt (by omega)) (Nat.zero_le _) (Nat.le_refl _) (by simp; omega) (fun j hj => by omega) (fun j h1 h2 => by omega)
