-- ===== read: the class's clauses, and both together =====
theorem e_isDig {ts zt : Nat → Int32} {c p : Nat} (hc : c ≤ 100) (ht : ∀ j, j < c → ts j = zt j) (hp : p < 2 ^ 30) : f_X7_isDigitAt (nI p) ts (nI c) = some (if isd (chx zt c p) = true then 1 else 0) := by
  unfold f_X7_isDigitAt
  rw [e_sign hc ht hp, ob_some]
  by_cases h : isd (chx zt c p) = true
  · have h' := h
    unfold isd at h'
    rw [decide_eq_true_eq] at h'
    rw [if_neg (nlt_le.mpr h'.1), if_neg (nlt_le.mpr h'.2), if_pos h]
  · rw [if_neg h]
    by_cases h1 : chx zt c p < 48
    · rw [if_pos h1]
    · by_cases h2 : (57 : Int32) < chx zt c p
      · rw [if_neg h1, if_pos h2]
      · exfalso
        apply h
        unfold isd
        exact decide_eq_true ⟨nlt_le.mp h1, nlt_le.mp h2⟩
theorem e_aft_L {ts zt : Nat → Int32} {c p M : Nat} (hc : c ≤ 100) (ht : ∀ j, j < c → ts j = zt j) (hp : p < 2 ^ 20) (hM : M ≤ 6) (K : Int32 → Option Int32) : ∀ d i fu, i + d = M → d < fu → f_X7_afterDigits_L17 (nI p) (nI M) ts (nI c) K fu (nI i) = K (nI (i + ndg (chx zt c) d (p + 1 + i)))
  | d, i, 0, _, h => by omega
  | 0, i, fu + 1, hi, _ => by
    rw [f_X7_afterDigits_L17, if_pos (nI_le (by omega) (by omega))]
    rfl
  | d + 1, i, fu + 1, hi, hfu => by
    rw [f_X7_afterDigits_L17, if_neg (nI_ge (by omega) (by omega)), nI_1, nI_add, e_isDig hc ht (by omega), ob_some, ndg]
    by_cases h : isd (chx zt c (p + 1 + i)) = true
    · rw [if_pos h, if_neg (show ¬ (1 : Int32) = 0 by decide), if_pos h, nI_1, e_aft_L hc ht hp hM K d (i + 1) fu (by omega) (by omega), show i + 1 + ndg (chx zt c) d (p + 1 + (i + 1)) = i + (1 + ndg (chx zt c) d (p + 1 + i + 1)) by rw [show p + 1 + (i + 1) = p + 1 + i + 1 by omega]; omega]
    · rw [if_neg h, if_pos rfl, if_neg h]
      rfl
theorem e_mo (x : Int32) : f_X7_mostDigits x = some (nI (mo x)) := by
  unfold f_X7_mostDigits mo
  by_cases h1 : x = 107
  · rw [if_pos h1, if_pos h1]; rfl
  rw [if_neg h1, if_neg h1]
  by_cases h2 : x = 109
  · rw [if_pos h2, if_pos h2]; rfl
  rw [if_neg h2, if_neg h2]
  by_cases h3 : x = 110
  · rw [if_pos h3, if_pos h3]; rfl
  rw [if_neg h3, if_neg h3]
  by_cases h4 : x = 116
  · rw [if_pos h4, if_pos h4]; rfl
  rw [if_neg h4, if_neg h4]
  by_cases h5 : x = 119
  · rw [if_pos h5, if_pos h5]; rfl
  rw [if_neg h5, if_neg h5]
  rfl
theorem e_fwd (x : Int32) : f_X7_fewestDigits x = some (nI (fwd x)) := by
  unfold f_X7_fewestDigits fwd
  by_cases h1 : x = 119
  · rw [if_pos h1, if_pos h1]; rfl
  · rw [if_neg h1, if_neg h1]; rfl
theorem e_after {ts zt : Nat → Int32} {c p : Nat} (hc : c ≤ 100) (ht : ∀ j, j < c → ts j = zt j) (hp : p < 2 ^ 20) : f_X7_afterDigits (nI p) ts (nI c) = some (nI (cend (chx zt c) p)) := by
  unfold f_X7_afterDigits cend
  have hm := mo_le (chx zt c p)
  rw [e_sign hc ht (by omega), ob_some, e_mo, ob_some]
  by_cases h : mo (chx zt c p) = 0
  · rw [if_pos h, h, if_pos (show nI 0 = (0 : Int32) from rfl)]
  · rw [if_neg h, if_neg (show ¬ nI (mo (chx zt c p)) = (0 : Int32) from fun q => h (nI_inj (b := 0) (by omega) (by omega) q))]
    refine Eq.trans (e_aft_L hc ht hp hm _ (mo (chx zt c p)) 0 q_fu (by omega) (fu_lt (by omega))) ?_
    show some (nI p + 1 + nI (0 + ndg (chx zt c) (mo (chx zt c p)) (p + 1 + 0))) = _
    rw [nI_1, nI_add, Nat.zero_add, Nat.add_zero]
theorem cend_le (ch : Nat → Int32) (p : Nat) : p ≤ cend ch p ∧ cend ch p ≤ p + 7 := by
  have := mo_le (ch p)
  have := ndg_le ch (mo (ch p)) (p + 1)
  unfold cend
  split <;> omega
theorem cok_if {ch : Nat → Int32} {p : Nat} (hp : p < 2 ^ 20) : nI (fwd (ch p)) ≤ nI (cend ch p) - nI p - 1 ↔ cok ch p := by
  have hm := mo_le (ch p)
  have hl := ndg_le ch (mo (ch p)) (p + 1)
  have hf : fwd (ch p) ≤ 2 ∧ 1 ≤ fwd (ch p) := by unfold fwd; split <;> omega
  have hce := cend_le ch p
  rw [nI_sub hce.1]
  unfold cok
  unfold cend
  by_cases h : mo (ch p) = 0
  · rw [if_pos h, Nat.sub_self]
    refine ⟨fun q => ?_, fun q => absurd h q.1⟩
    rw [fa_le, show (nI 0 - 1 : Int32).toInt = -1 from by decide, nI_toInt (by omega)] at q
    omega
  · rw [if_neg h, show p + 1 + ndg ch (mo (ch p)) (p + 1) - p = ndg ch (mo (ch p)) (p + 1) + 1 by omega, nI_dec (by omega), Nat.add_sub_cancel, nI_leI (by omega) (by omega)]
    exact ⟨fun q => ⟨h, q⟩, fun q => q.2⟩
/-- a clause in the class's rows and in the reference's -/
def CRL (ch : Nat → Int32) (tb te le fi se : Nat → Int32) (j : Nat) : Prop := ∃ p, p < 2 ^ 18 ∧ tb j = nI p ∧ te j = nI (cend ch p) ∧ cok ch p ∧ le j = ch p ∧ cnum ch p (fi j) (se j)
def POUT (ch : Nat → Int32) (c : Nat) (tb te le fi se : Nat → Int32) (ft at_ lk bg : Int32) (w : Nat) : Prop :=
  (ft = -1 ∧ lk = 0 ∧ (∃ a, at_ = nI a ∧ c ≤ a ∧ a < 2 ^ 18) ∧ w ≤ 12 ∧ ∀ j, j < w → CRL ch tb te le fi se j) ∨
  (∃ t, t < 2 ^ 18 ∧ ft = nI t ∧ at_ = nI t ∧ w ≤ 12 ∧ ((lk = 0 ∧ t < c ∧ ∃ w', w = w' + 1 ∧ te w' = nI t) ∨ (¬ lk = 0 ∧ w < 12 ∧ bg = tb w ∧ (∀ w', w = w' + 1 → te w' ≠ nI t) ∧ (lk = 3 ∧ tb w ≠ nI t ∨ lk = 4 ∧ tb w = nI t))))
theorem parse_L {ts zt : Nat → Int32} {c : Nat} (hc : c ≤ 100) (ht : ∀ j, j < c → ts j = zt j) (K : Int32 → Int32 → Int32 → Int32 → (Nat → Int32) → (Nat → Int32) → (Nat → Int32) → Option (Int32 × (Nat → Int32) × Int32 × (Nat → Int32) × (Nat → Int32) × Int32 × (Nat → Int32) × (Nat → Int32) × Int32 × Int32 × Int32 × Int32 × Int32 × (Nat → Int32) × (Nat → Int32) × (Nat → Int32))) (KC : Int32 → Int32 → Int32 → (Nat → Int32) → (Nat → Int32) → Option (Int32 × Int32 × (Nat → Int32) × (Nat → Int32))) : ∀ d l fu p bg tb te le fi se, l + d = 11 → d < fu → p ≤ c + 8 → (∀ j, j < l → CRL (chx zt c) tb te le fi se j) → (∀ l', l = l' + 1 → ∃ t, te l' = nI t ∧ t < p) → ∃ ft w at_ lk bg' tb' te' le' fi' se', f_X7_findFault_L9 ts (nI c) KC fu (nI p) (nI l) (nI l) tb te = some (ft, nI w, tb', te') ∧ ((f_X10_clause zt (nI c) (nI p) 0 (nI l) bg le fi se).bind fun t5 => f_X10_read_L19 zt (nI c) K fu t5.1 t5.2.1 t5.2.2.1 t5.2.2.2.1 t5.2.2.2.2.1 t5.2.2.2.2.2.1 t5.2.2.2.2.2.2) = K at_ lk (nI w) bg' le' fi' se' ∧ POUT (chx zt c) c tb' te' le' fi' se' ft at_ lk bg' w := by
  intro d
  induction d with
  | zero =>
    intro l fu p bg tb te le fi se hl hfu hp hC hE
    obtain ⟨fu, rfl⟩ : ∃ f, fu = f + 1 := ⟨fu - 1, by omega⟩
    obtain rfl : l = 11 := by omega
    have hce := cend_le (chx zt c) p
    obtain ⟨R, eR, hR⟩ := r_clause (zt := zt) (le := le) (fi := fi) (se := se) (bg := bg) (cl := 11) hc (show p < 2 ^ 18 by omega) (by omega)
    have eB : q_wt tb 12 (nI 11) (nI p) = some (upd tb 11 (nI p)) := qe_wt _ _ (by omega) (by decide)
    rw [f_X7_findFault_L9, if_neg (show ¬ (12 : Int32) ≤ nI 11 by decide), eB, ob_some, e_after hc ht (by omega), ob_some, e_sign hc ht (by omega), ob_some, e_fwd, ob_some, eR, ob_some]
    rcases hR with ⟨hk, F, S, hN, rfl⟩ | ⟨hk, lk, rfl, hlk⟩
    · have hCR : ∀ j, j < 11 + 1 → CRL (chx zt c) (upd tb 11 (nI p)) (upd te 11 (nI (cend (chx zt c) p))) (upd le 11 (chx zt c p)) (upd fi 11 F) (upd se 11 S) j := fun j hj => by
        by_cases e : j = 11
        · subst e
          exact ⟨p, by omega, upd_at _ _ _, upd_at _ _ _, hk, upd_at _ _ _, by rw [upd_at, upd_at]; exact hN⟩
        · obtain ⟨q, q1, q2, q3, q4, q5, q6⟩ := hC j (by omega)
          exact ⟨q, q1, (upd_ne _ e).trans q2, (upd_ne _ e).trans q3, q4, (upd_ne _ e).trans q5, by rw [upd_ne _ e, upd_ne _ e]; exact q6⟩
      rw [if_pos ((cok_if (by omega)).mpr hk), qe_wt _ _ (by omega) (by decide), ob_some]
      by_cases hlt : cend (chx zt c) p < c
      · rw [if_pos (nI_lt hlt (by omega)), e_sign hc ht (by omega), ob_some]
        by_cases h59 : chx zt c (cend (chx zt c) p) = 59
        · rw [if_pos h59, if_pos (show nI 11 + 1 = (12 : Int32) from rfl)]
          refine ⟨_, 12, nI (cend (chx zt c) p), 0, nI p, _, _, upd le 11 (chx zt c p), upd fi 11 F, upd se 11 S, rfl, ?_, Or.inr ⟨_, by omega, rfl, rfl, by omega, Or.inl ⟨rfl, hlt, 11, rfl, upd_at _ _ _⟩⟩⟩
          show f_X10_read_L19 zt (nI c) K (fu + 1) (nI (cend (chx zt c) p)) 0 (nI 12) (nI p) _ _ _ = _
          rw [f_X10_read_L19, if_pos rfl, r_here hc (by omega), ob_some, if_pos h59, if_pos (show (12 : Int32) ≤ nI 12 by decide)]
        · rw [if_neg h59]
          refine ⟨_, 12, nI (cend (chx zt c) p), 0, nI p, _, _, upd le 11 (chx zt c p), upd fi 11 F, upd se 11 S, rfl, ?_, Or.inr ⟨_, by omega, rfl, rfl, by omega, Or.inl ⟨rfl, hlt, 11, rfl, upd_at _ _ _⟩⟩⟩
          show f_X10_read_L19 zt (nI c) K (fu + 1) (nI (cend (chx zt c) p)) 0 (nI 12) (nI p) _ _ _ = _
          rw [f_X10_read_L19, if_pos rfl, r_here hc (by omega), ob_some, if_neg h59]
      · rw [if_neg (nlt_le.mpr (nI_le (by omega) (by omega)))]
        have hm1 : chx zt c (cend (chx zt c) p) = -1 := if_neg hlt
        refine ⟨_, 12, nI (cend (chx zt c) p), 0, nI p, _, _, upd le 11 (chx zt c p), upd fi 11 F, upd se 11 S, rfl, ?_, Or.inl ⟨rfl, rfl, ⟨_, rfl, by omega, by omega⟩, by omega, hCR⟩⟩
        show f_X10_read_L19 zt (nI c) K (fu + 1) (nI (cend (chx zt c) p)) 0 (nI 12) (nI p) _ _ _ = _
        rw [f_X10_read_L19, if_pos rfl, r_here hc (by omega), ob_some, hm1, if_neg (show ¬ (-1 : Int32) = 59 by decide)]
    · rw [if_neg (fun q => hk ((cok_if (by omega)).mp q))]
      have hl0 : ¬ lk = 0 := by
        rcases hlk with ⟨rfl, -⟩ | ⟨rfl, -⟩ <;> decide
      refine ⟨_, 11, nI (cend (chx zt c) p), lk, nI p, upd tb 11 (nI p), te, le, fi, se, rfl, ?_, Or.inr ⟨_, by omega, rfl, rfl, by omega, Or.inr ⟨hl0, by omega, (upd_at _ _ _).symm, fun w' hw' => ?_, ?_⟩⟩⟩
      · show f_X10_read_L19 zt (nI c) K (fu + 1) (nI (cend (chx zt c) p)) lk (nI 11) (nI p) le fi se = _
        rw [f_X10_read_L19, if_neg hl0]
      · obtain ⟨t, q1, q2⟩ := hE w' hw'
        rw [q1]
        intro q
        have := nI_inj (by omega) (by omega) q
        omega
      · rw [upd_at]
        rcases hlk with ⟨rfl, h⟩ | ⟨rfl, h⟩
        · exact Or.inl ⟨rfl, fun q => by have := nI_inj (by omega) (by omega) q; omega⟩
        · exact Or.inr ⟨rfl, by rw [h]⟩
  | succ d ih =>
    intro l fu p bg tb te le fi se hl hfu hp hC hE
    obtain ⟨fu, rfl⟩ : ∃ f, fu = f + 1 := ⟨fu - 1, by omega⟩
    have hce := cend_le (chx zt c) p
    obtain ⟨R, eR, hR⟩ := r_clause (zt := zt) (le := le) (fi := fi) (se := se) (bg := bg) (cl := l) hc (show p < 2 ^ 18 by omega) (by omega)
    have eB : q_wt tb 12 (nI l) (nI p) = some (upd tb l (nI p)) := qe_wt _ _ (by omega) (by decide)
    rw [f_X7_findFault_L9, if_neg (show ¬ (12 : Int32) ≤ nI l from nI_ge (a := l) (b := 12) (by omega) (by omega)), eB, ob_some, e_after hc ht (by omega), ob_some, e_sign hc ht (by omega), ob_some, e_fwd, ob_some, eR, ob_some]
    rcases hR with ⟨hk, F, S, hN, rfl⟩ | ⟨hk, lk, rfl, hlk⟩
    · have hCR : ∀ j, j < l + 1 → CRL (chx zt c) (upd tb l (nI p)) (upd te l (nI (cend (chx zt c) p))) (upd le l (chx zt c p)) (upd fi l F) (upd se l S) j := fun j hj => by
        by_cases e : j = l
        · subst e
          exact ⟨p, by omega, upd_at _ _ _, upd_at _ _ _, hk, upd_at _ _ _, by rw [upd_at, upd_at]; exact hN⟩
        · obtain ⟨q, q1, q2, q3, q4, q5, q6⟩ := hC j (by omega)
          exact ⟨q, q1, (upd_ne _ e).trans q2, (upd_ne _ e).trans q3, q4, (upd_ne _ e).trans q5, by rw [upd_ne _ e, upd_ne _ e]; exact q6⟩
      rw [if_pos ((cok_if (by omega)).mpr hk), qe_wt _ _ (by omega) (by decide), ob_some]
      by_cases hlt : cend (chx zt c) p < c
      · rw [if_pos (nI_lt hlt (by omega)), e_sign hc ht (by omega), ob_some]
        by_cases h59 : chx zt c (cend (chx zt c) p) = 59
        · rw [if_pos h59, nI_1, nI_1, if_neg (show ¬ nI (l + 1) = (12 : Int32) from fun q => by
            have := nI_inj (a := l + 1) (b := 12) (by omega) (by omega) q
            omega)]
          obtain ⟨ft, w, at_, lk, bg', tb', te', le', fi', se', e1, e2, e3⟩ := ih (l + 1) fu (cend (chx zt c) p + 1) (nI p) (upd tb l (nI p)) (upd te l (nI (cend (chx zt c) p))) (upd le l (chx zt c p)) (upd fi l F) (upd se l S) (by omega) (by omega) (by omega) hCR (fun l' hl' => ⟨cend (chx zt c) p, by rw [show l' = l by omega, upd_at], by omega⟩)
          refine ⟨ft, w, at_, lk, bg', tb', te', le', fi', se', e1, ?_, e3⟩
          show f_X10_read_L19 zt (nI c) K (fu + 1) (nI (cend (chx zt c) p)) 0 (nI (l + 1)) (nI p) _ _ _ = _
          rw [f_X10_read_L19, if_pos rfl, r_here hc (by omega), ob_some, if_pos h59, if_neg (show ¬ (12 : Int32) ≤ nI (l + 1) from nI_ge (a := l + 1) (b := 12) (by omega) (by omega)), nI_1]
          exact e2
        · rw [if_neg h59, nI_1]
          refine ⟨_, l + 1, nI (cend (chx zt c) p), 0, nI p, _, _, upd le l (chx zt c p), upd fi l F, upd se l S, rfl, ?_, Or.inr ⟨_, by omega, rfl, rfl, by omega, Or.inl ⟨rfl, hlt, l, rfl, upd_at _ _ _⟩⟩⟩
          show f_X10_read_L19 zt (nI c) K (fu + 1) (nI (cend (chx zt c) p)) 0 (nI (l + 1)) (nI p) _ _ _ = _
          rw [f_X10_read_L19, if_pos rfl, r_here hc (by omega), ob_some, if_neg h59]
      · rw [if_neg (nlt_le.mpr (nI_le (by omega) (by omega))), nI_1]
        have hm1 : chx zt c (cend (chx zt c) p) = -1 := if_neg hlt
        refine ⟨_, l + 1, nI (cend (chx zt c) p), 0, nI p, _, _, upd le l (chx zt c p), upd fi l F, upd se l S, rfl, ?_, Or.inl ⟨rfl, rfl, ⟨_, rfl, by omega, by omega⟩, by omega, hCR⟩⟩
        show f_X10_read_L19 zt (nI c) K (fu + 1) (nI (cend (chx zt c) p)) 0 (nI (l + 1)) (nI p) _ _ _ = _
        rw [f_X10_read_L19, if_pos rfl, r_here hc (by omega), ob_some, hm1, if_neg (show ¬ (-1 : Int32) = 59 by decide)]
    · rw [if_neg (fun q => hk ((cok_if (by omega)).mp q))]
      have hl0 : ¬ lk = 0 := by
        rcases hlk with ⟨rfl, -⟩ | ⟨rfl, -⟩ <;> decide
      refine ⟨_, l, nI (cend (chx zt c) p), lk, nI p, upd tb l (nI p), te, le, fi, se, rfl, ?_, Or.inr ⟨_, by omega, rfl, rfl, by omega, Or.inr ⟨hl0, by omega, (upd_at _ _ _).symm, fun w' hw' => ?_, ?_⟩⟩⟩
      · show f_X10_read_L19 zt (nI c) K (fu + 1) (nI (cend (chx zt c) p)) lk (nI l) (nI p) le fi se = _
        rw [f_X10_read_L19, if_neg hl0]
      · obtain ⟨t, q1, q2⟩ := hE w' hw'
        rw [q1]
        intro q
        have := nI_inj (by omega) (by omega) q
        omega
      · rw [upd_at]
        rcases hlk with ⟨rfl, h⟩ | ⟨rfl, h⟩
        · exact Or.inl ⟨rfl, fun q => by have := nI_inj (by omega) (by omega) q; omega⟩
        · exact Or.inr ⟨rfl, by rw [h]⟩
