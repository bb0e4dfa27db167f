-- ===== the class grows its moves =====
/-- what stands of the moves found so far, in the class's cells -/
def VS (B : List Nat) (keys asF : Nat → Int32) (found turns : Int32) : Prop := AK keys (srt B) ∧ AK asF B ∧ found = nI B.length ∧ turns = nI (B.countP (fun K => decide (K % 2 = 0)))
theorem SI_mem {L : List Nat} {a key : Nat} (h1 : ∀ j, j < a → L.getD j 0 < key) (h2 : ∀ j, a ≤ j → j < L.length → key ≤ L.getD j 0) (hS : SI L) (hm : key ∈ L) : a < L.length ∧ L.getD a 0 = key := by
  obtain ⟨j, hj, e⟩ := mem_getD hm
  have hja : a ≤ j := Nat.le_of_not_lt (fun h => by have := h1 j h; omega)
  have hal : a < L.length := by omega
  refine ⟨hal, ?_⟩
  have h3 := h2 a (Nat.le_refl _) hal
  rcases Nat.lt_or_ge a j with h | h
  · have := hS a j h hj
    omega
  · rw [show a = j by omega]; exact e
theorem upd_at (f : Nat → Int32) (k : Nat) (x : Int32) : upd f k x k = x := by unfold upd; rw [if_pos rfl]
theorem upd_ne {f : Nat → Int32} {k j : Nat} (x : Int32) (h : j ≠ k) : upd f k x j = f j := by unfold upd; rw [if_neg h]
theorem AK_put {keys : Nat → Int32} {L : List Nat} {a key : Nat} (hA : AK keys L) (ha : a ≤ L.length) : AK (upd (va_cpy keys keys a (a + 1) (L.length - a)) a (nI key)) (put L a key) := by
  intro j hj
  rw [put_len] at hj
  rcases Nat.lt_trichotomy j a with h | h | h
  · rw [upd_ne _ (by omega), put_lt ha h]
    unfold va_cpy
    rw [if_neg (by omega)]
    exact hA j (by omega)
  · subst h
    rw [upd_at, put_eq ha]
  · rw [upd_ne _ (by omega), put_gt ha h]
    unfold va_cpy
    rw [if_pos (by omega), show a + (j - (a + 1)) = j - 1 by omega]
    exact hA _ (by omega)
theorem AK_app {a : Nat → Int32} {B : List Nat} {x : Nat} (hA : AK a B) : AK (upd a B.length (nI x)) (B ++ [x]) := by
  intro j hj
  rw [List.length_append, List.length_singleton] at hj
  by_cases h : j = B.length
  · subst h
    rw [upd_at, List.getD_eq_getElem?_getD, List.getElem?_append_right (Nat.le_refl _), Nat.sub_self]
    rfl
  · rw [upd_ne _ h, getD_app (by omega)]
    exact hA j (by omega)
theorem turn_1 (key : Nat) : (1 : Int32) - (nI key &&& 1) = nI (if key % 2 = 0 then 1 else 0) := by
  rw [e_hand]
  rcases Nat.mod_two_eq_zero_or_one key with e | e <;> rw [e] <;> decide
theorem cnt_snoc (B : List Nat) (x : Nat) : (B ++ [x]).countP (fun K => decide (K % 2 = 0)) = B.countP (fun K => decide (K % 2 = 0)) + if x % 2 = 0 then 1 else 0 := by
  rw [List.countP_append, List.countP_singleton]
  simp only [decide_eq_true_eq]
theorem e_admit {B : List Nat} {keys asF : Nat → Int32} {found turns : Int32} {key : Nat} (hV : VS B keys asF found turns) (hn : B.Nodup) (hl : B.length ≤ 120) (hb : ∀ x ∈ B, x < 2 ^ 31) (hk : key < 2 ^ 31) :
    (∀ C, adm B key = some C → ∃ keys' asF' found' turns', f_X5_admit (nI key) keys asF found turns = some (1, keys', asF', found', turns') ∧ VS C keys' asF' found' turns') ∧
    (adm B key = none → ∃ keys' asF' found' turns', f_X5_admit (nI key) keys asF found turns = some (0, keys', asF', found', turns')) := by
  obtain ⟨hK, hA, rfl, rfl⟩ := hV
  have hS := srt_SI hn
  have hL := srt_len B
  obtain ⟨a, e, ha, h1, h2⟩ := e_placeOf hK hS (by omega) hk (fun j hj => hb _ (srt_mem.mp (getD_mem hj)))
  rw [hL] at e ha
  unfold f_X5_admit
  rw [e, ob_some]
  have hnew : key ∉ B → B.length < 120 → ∃ keys' asF' found' turns', ((q_cp keys keys 120 120 (nI a) (nI a + 1) (nI B.length - nI a)).bind fun t4 => (q_wt t4 120 (nI a) (nI key)).bind fun t5 => (q_wt asF 120 (nI B.length) (nI key)).bind fun t6 => some ((1 : Int32), t5, t6, nI B.length + 1, nI (B.countP (fun K => decide (K % 2 = 0))) + (1 - (nI key &&& 1)))) = some (1, keys', asF', found', turns') ∧ VS (B ++ [key]) keys' asF' found' turns' := by
    intro hm hlt
    rw [nI_1, nI_sub ha, qe_cp _ _ (by omega) (by omega) (by decide) (by decide), ob_some, qe_wt _ _ (by omega) (by decide), ob_some, qe_wt _ _ (by omega) (by decide), ob_some, nI_1, turn_1, nI_add]
    refine ⟨_, _, _, _, rfl, ?_, AK_app hA, by rw [List.length_append, List.length_singleton], by rw [cnt_snoc]⟩
    have hlt2 : ∀ j, a ≤ j → j < (srt B).length → key < (srt B).getD j 0 := fun j hj hjl => by
      have h3 := h2 j hj hjl
      have h4 : (srt B).getD j 0 ≠ key := fun h => hm (srt_mem.mp (h ▸ getD_mem hjl))
      omega
    have hp : (put (srt B) a key).Perm (B ++ [key]) := (put_perm _ _ _).trans (((srt_perm B).cons key).trans (List.perm_append_singleton key B).symm)
    rw [← srt_one (put_SI (by omega) hS h1 hlt2) hp]
    have := AK_put (key := key) hK (by omega : a ≤ (srt B).length)
    rwa [hL] at this
  by_cases hm : key ∈ B
  · obtain ⟨hal, he⟩ := SI_mem h1 h2 hS (srt_mem.mpr hm)
    have hadm : adm B key = some B := by unfold adm; rw [if_pos hm]
    rw [if_neg (nI_ge (by omega) (by omega)), qe_rd _ (by omega) (by decide), ob_some, hK _ hal, he, if_pos rfl]
    refine ⟨fun C hC => ?_, fun h => by rw [hadm] at h; cases h⟩
    rw [hadm] at hC
    cases hC
    exact ⟨_, _, _, _, rfl, hK, hA, rfl, rfl⟩
  · have hne : ¬ nI B.length ≤ nI a → keys a ≠ nI key := by
      intro hc h
      have hal : a < (srt B).length := by
        rw [hL]
        exact Nat.lt_of_not_le (fun h => hc (nI_le h (by omega)))
      rw [hK a hal] at h
      have h3 := nI_inj (hb _ (srt_mem.mp (getD_mem hal))) hk h
      exact hm (srt_mem.mp (h3 ▸ getD_mem hal))
    by_cases hlt : B.length < 120
    · have hadm : adm B key = some (B ++ [key]) := by unfold adm; rw [if_neg hm, if_neg (by omega)]
      obtain ⟨k', a', f', t', e1, e2⟩ := hnew hm hlt
      refine ⟨fun C hC => ?_, fun h => by rw [hadm] at h; cases h⟩
      rw [hadm] at hC
      cases hC
      refine ⟨k', a', f', t', ?_, e2⟩
      rw [li_120, if_pos (nI_lt hlt (by decide))]
      split
      · exact e1
      · rename_i hc
        rw [qe_rd _ (Nat.lt_of_not_le (fun h => hc (nI_le (by omega) (by omega)))) (by decide), ob_some, if_neg (hne hc)]
        exact e1
    · have hadm : adm B key = none := by unfold adm; rw [if_neg hm, if_pos (by omega)]
      refine ⟨fun C hC => (by rw [hadm] at hC; cases hC), fun _ => ?_⟩
      rw [li_120, if_neg (nI_nlt (by omega) (by omega))]
      split
      · exact ⟨_, _, _, _, rfl⟩
      · rename_i hc
        rw [qe_rd _ (by
          have : a < B.length := Nat.lt_of_not_le (fun h => hc (nI_le (by omega) (by omega)))
          omega) (by decide), ob_some, if_neg (hne hc)]
        exact ⟨_, _, _, _, rfl⟩
/-- which generators are meant -/
def sel (set : Nat) (gk : Nat → Nat) : Nat → Nat → List Nat
  | 0, _ => []
  | d + 1, i => if set.testBit i then gk i :: sel set gk d (i + 1) else sel set gk d (i + 1)
theorem e_tb {s i : Nat} (hs : s < 2 ^ 31) (hi : i < 32) : (nI s >>> (nI i &&& 31)) &&& 1 = if s.testBit i then 1 else 0 := by
  rw [nI_c31 i hi, nI_shr hs hi, e_hand, Nat.testBit_eq_decide_div_mod_eq]
  rcases Nat.mod_two_eq_zero_or_one (s / 2 ^ i) with e | e <;> rw [e] <;> rfl
theorem e_grow1 {n set x l4 : Nat} {gk : Nat → Nat} {gens : Nat → Int32} {hs : List Nat} (hn : n ≤ 6) (hset : set < 2 ^ 31) (hg : ∀ i, i < 4 → set.testBit i = true → gens i = nI (gk i) ∧ Mv n (gk i) ∧ gk i ∈ hs) (hhs : ∀ g ∈ hs, Mv n g) (hx : Mv n x) (hR : Rch n hs x)
    (K : Int32 → (Nat → Int32) → (Nat → Int32) → Int32 → Int32 → Option (Int32 × (Nat → Int32) × (Nat → Int32) × Int32 × Int32 × Int32)) :
    ∀ d i fu B keys asF found turns, i + d = 4 → d < fu → Fnd n hs B → VS B keys asF found turns → l4 < B.length → B.getD l4 0 = x →
      (∀ C, gen1 n x (sel set gk d i) B = some C → ∃ keys' asF' found' turns', VS C keys' asF' found' turns' ∧ f_X5_grow_L27 (nI set) (nI l4) (nI n) gens K fu (nI i) keys asF found turns = K (nI 4) keys' asF' found' turns') ∧
      (gen1 n x (sel set gk d i) B = none → ∃ r, f_X5_grow_L27 (nI set) (nI l4) (nI n) gens K fu (nI i) keys asF found turns = some r ∧ r.1 = 0)
  | d, i, 0, _, _, _, _, _, _, h, _, _, _, _ => by omega
  | 0, i, fu + 1, B, keys, asF, found, turns, hi, hfu, hF, hV, hl, hBx => by
    rw [f_X5_grow_L27, li_4, if_pos (nI_le (by omega) (by omega)), show i = 4 by omega]
    refine ⟨fun C hC => ?_, fun h => by cases h⟩
    cases hC
    exact ⟨_, _, _, _, hV, rfl⟩
  | d + 1, i, fu + 1, B, keys, asF, found, turns, hi, hfu, hF, hV, hl, hBx => by
    rw [f_X5_grow_L27, li_4, if_neg (nI_ge (by omega) (by omega)), e_tb hset (by omega), sel]
    have hlen := hF.2.2.2
    by_cases hb : set.testBit i = true
    · obtain ⟨e1, e2, e3⟩ := hg i (by omega) hb
      rw [if_pos hb, if_pos hb, if_pos rfl, qe_rd _ (by omega) (by decide), ob_some, qe_rd _ (by omega) (by decide), ob_some, hV.2.1 l4 hl, hBx, e1, e_behind hn hx e2, ob_some, gen1]
      have hy := Rch_step hR e3
      obtain ⟨ha, hb2⟩ := e_admit (key := mu n x (gk i)) hV hF.1 hlen (fun z hz => by have := Mv_lt (Rch_Mv hn hhs (hF.2.1 z hz)); omega) (by have := Mv_lt (Mv.mu hn hx e2); omega)
      cases hadm : adm B (mu n x (gk i)) with
      | none =>
        obtain ⟨_, _, _, _, e5⟩ := hb2 hadm
        rw [e5, ob_some, if_pos rfl]
        exact ⟨fun C hC => (by cases hC), fun _ => ⟨_, rfl, rfl⟩⟩
      | some B1 =>
        obtain ⟨k', a', f', t', e5, hV1⟩ := ha B1 hadm
        rw [e5, ob_some, ob_some, if_neg (show ¬ (1 : Int32) = 0 by decide), nI_1]
        obtain ⟨⟨D, hD⟩, -⟩ := adm_sub hadm
        exact e_grow1 hn hset hg hhs hx hR K d (i + 1) fu B1 k' a' f' t' (by omega) (by omega) (adm_Fnd hF hy hadm) hV1 (by rw [hD, List.length_append]; omega) (by rw [hD, getD_app hl]; exact hBx)
    · rw [if_neg hb, if_neg hb, if_neg (by decide), nI_1]
      exact e_grow1 hn hset hg hhs hx hR K d (i + 1) fu B keys asF found turns (by omega) (by omega) hF hV hl hBx
theorem sel_sub {set : Nat} {gk : Nat → Nat} {hs : List Nat} : ∀ d i, (∀ j, i ≤ j → j < i + d → set.testBit j = true → gk j ∈ hs) → ∀ g ∈ sel set gk d i, g ∈ hs
  | 0, _, _, g, hg => by cases hg
  | d + 1, i, h, g, hg => by
    rw [sel] at hg
    split at hg
    · rename_i hb
      rcases List.mem_cons.mp hg with rfl | hg
      · exact h i (Nat.le_refl _) (by omega) hb
      · exact sel_sub d (i + 1) (fun j h1 h2 => h j (by omega) (by omega)) g hg
    · exact sel_sub d (i + 1) (fun j h1 h2 => h j (by omega) (by omega)) g hg
theorem sel_mem {set : Nat} {gk : Nat → Nat} : ∀ d i j, i ≤ j → j < i + d → set.testBit j = true → gk j ∈ sel set gk d i
  | 0, _, _, _, _, _ => by omega
  | d + 1, i, j, h1, h2, hb => by
    rw [sel]
    by_cases e : j = i
    · subst e
      rw [if_pos hb]
      exact List.mem_cons_self
    · have := sel_mem (gk := gk) d (i + 1) j (by omega) (by omega) hb
      split
      · exact List.mem_cons_of_mem _ this
      · exact this
theorem sel_of {set : Nat} {gk : Nat → Nat} : ∀ d i g, g ∈ sel set gk d i → ∃ j, i ≤ j ∧ j < i + d ∧ set.testBit j = true ∧ gk j = g
  | 0, _, g, h => by cases h
  | d + 1, i, g, h => by
    rw [sel] at h
    split at h
    · rename_i hb
      rcases List.mem_cons.mp h with rfl | h
      · exact ⟨i, Nat.le_refl _, by omega, hb, rfl⟩
      · obtain ⟨j, h1, h2, h3⟩ := sel_of d (i + 1) g h
        exact ⟨j, by omega, by omega, h3⟩
    · obtain ⟨j, h1, h2, h3⟩ := sel_of d (i + 1) g h
      exact ⟨j, by omega, by omega, h3⟩
theorem e_growL {n set : Nat} {gk : Nat → Nat} {gens : Nat → Int32} (hn : n ≤ 6) (hset : set < 2 ^ 31) (hg : ∀ i, i < 4 → set.testBit i = true → gens i = nI (gk i) ∧ Mv n (gk i))
    (K : Int32 → (Nat → Int32) → (Nat → Int32) → Int32 → Int32 → Option (Int32 × (Nat → Int32) × (Nat → Int32) × Int32 × Int32 × Int32)) :
    ∀ fu k B keys asF found turns, 120 < fu + k → k ≤ B.length → Fnd n (sel set gk 4 0) B → VS B keys asF found turns →
      (∀ C, genL n (sel set gk 4 0) fu k B = some C → ∃ l keys' asF' found' turns', VS C keys' asF' found' turns' ∧ f_X5_grow_L8 (nI set) (nI n) gens K fu (nI k) keys asF found turns = K l keys' asF' found' turns') ∧
      (genL n (sel set gk 4 0) fu k B = none → ∃ r, f_X5_grow_L8 (nI set) (nI n) gens K fu (nI k) keys asF found turns = some r ∧ r.1 = 0)
  | 0, k, B, _, _, _, _, hfu, hk, hF, _ => by have := hF.2.2.2; omega
  | fu + 1, k, B, keys, asF, found, turns, hfu, hk, hF, hV => by
    have hlen := hF.2.2.2
    have hM : ∀ g ∈ sel set gk 4 0, Mv n g := fun g hgs => by
      obtain ⟨j, -, h2, h3, rfl⟩ := sel_of _ _ _ hgs
      exact (hg j (by omega) h3).2
    rw [f_X5_grow_L8, genL, hV.2.2.1]
    by_cases hkl : k < B.length
    · rw [if_neg (nI_ge hkl (by omega)), if_pos hkl, li_120, if_neg (nI_ge (by omega) (by omega))]
      have hxR := hF.2.1 _ (getD_mem hkl)
      obtain ⟨h1, h2⟩ := e_grow1 (x := B.getD k 0) (l4 := k) (hs := sel set gk 4 0) hn hset (fun i hi hb => ⟨(hg i hi hb).1, (hg i hi hb).2, sel_mem 4 0 i (Nat.zero_le _) (by omega) hb⟩) hM (Rch_Mv hn hM hxR) hxR (fun _ v_keys_3 v_asFound_3 v_found_3 v_turns_3 => f_X5_grow_L8 (nI set) (nI n) gens K fu (nI k + 1) v_keys_3 v_asFound_3 v_found_3 v_turns_3) 4 0 q_fu B keys asF (nI B.length) turns (by omega) (fu_lt (by omega)) hF (by rw [← hV.2.2.1]; exact hV) hkl rfl
      cases hgen : gen1 n (B.getD k 0) (sel set gk 4 0) B with
      | none =>
        obtain ⟨r, e, hr⟩ := h2 hgen
        exact ⟨fun C hC => (by cases hC), fun _ => ⟨r, e, hr⟩⟩
      | some B1 =>
        obtain ⟨k', a', f', t', hV1, e⟩ := h1 B1 hgen
        obtain ⟨hF1, ⟨D, hD⟩, -⟩ := gen1_Fnd (fun g hg => hg) hxR hF hgen
        have ih := e_growL hn hset hg K fu (k + 1) B1 k' a' f' t' (by omega) (by rw [hD, List.length_append]; omega) hF1 hV1
        rw [show (some B1).bind (genL n (sel set gk 4 0) fu (k + 1)) = genL n (sel set gk 4 0) fu (k + 1) B1 from rfl]
        rw [show f_X5_grow_L27 (nI set) (nI k) (nI n) gens (fun l5_3 v_keys_3 v_asFound_3 v_found_3 v_turns_3 => f_X5_grow_L8 (nI set) (nI n) gens K fu (nI k + 1) v_keys_3 v_asFound_3 v_found_3 v_turns_3) q_fu 0 keys asF (nI B.length) turns = f_X5_grow_L8 (nI set) (nI n) gens K fu (nI (k + 1)) k' a' f' t' from by rw [← nI_1]; exact e]
        exact ih
    · rw [if_pos (nI_le (by omega) (by omega)), if_neg hkl]
      refine ⟨fun C hC => ?_, fun h => by cases h⟩
      cases hC
      exact ⟨_, _, _, _, _, by rw [← hV.2.2.1]; exact hV, rfl⟩
/-- the class's moves begun: the one that leaves all where it is -/
theorem e_begin {n : Nat} {keys asF : Nat → Int32} {found turns pl : Int32} (hn : n ≤ 6) : ∃ keys' asF' found' turns', VS [one n] keys' asF' found' turns' ∧ f_X5_begin (nI n) keys asF found turns pl = some (keys', asF', found', turns', nI n) := by
  unfold f_X5_begin
  have h1 := Mv_lt (Mv.one hn)
  have e1 : nI (idr n) <<< (1 &&& 31 : Int32) = nI (one n) := by
    rw [show (1 &&& 31 : Int32) = nI 1 from by decide, nI_shl _ (by decide), one, Nat.mul_comm]
  rw [e_unmoved hn, ob_some, e1]
  have hV0 : VS [] keys asF 0 0 := ⟨fun j hj => by simp [srt] at hj, fun j hj => by simp at hj, rfl, rfl⟩
  obtain ⟨ha, -⟩ := e_admit (key := one n) hV0 (by simp) (by simp) (fun x hx => by cases hx) (by omega)
  obtain ⟨k', a', f', t', e2, hV1⟩ := ha [one n] rfl
  rw [e2, ob_some]
  exact ⟨k', a', f', t', hV1, rfl⟩
/-- all moves of the generators of a set -/
theorem e_grow {n set : Nat} {gk : Nat → Nat} {gens keys asF : Nat → Int32} {found turns pl : Int32} (hn : n ≤ 6) (hset : set < 2 ^ 31) (hg : ∀ i, i < 4 → set.testBit i = true → gens i = nI (gk i) ∧ Mv n (gk i)) :
    (∀ B, gen n (sel set gk 4 0) = some B → ∃ keys' asF' found' turns', VS B keys' asF' found' turns' ∧ f_X5_grow (nI set) (nI n) keys asF found turns pl gens = some (1, keys', asF', found', turns', nI n)) ∧
    (gen n (sel set gk 4 0) = none → ∃ r, f_X5_grow (nI set) (nI n) keys asF found turns pl gens = some r ∧ r.1 = 0) := by
  unfold f_X5_grow gen
  obtain ⟨k', a', f', t', hV1, e2⟩ := e_begin (keys := keys) (asF := asF) (found := found) (turns := turns) (pl := pl) hn
  rw [e2, ob_some]
  obtain ⟨h2, h3⟩ := e_growL hn hset hg (fun _ v_keys_3 v_asFound_3 v_found_3 v_turns_3 => some (1, v_keys_3, v_asFound_3, v_found_3, v_turns_3, nI n)) 6000 0 [one n] k' a' f' t' (by omega) (by simp) (Fnd.start _) hV1
  refine ⟨fun B hB => ?_, fun h => h3 h⟩
  obtain ⟨l, k2, a2, f2, t2, hV2, e⟩ := h2 B hB
  exact ⟨k2, a2, f2, t2, hV2, e⟩
