-- ===== read: the text taken apart =====
def isd (x : Int32) : Bool := decide ((48 : Int32) ≤ x ∧ x ≤ 57)
def ndg (ch : Nat → Int32) : Nat → Nat → Nat
  | 0, _ => 0
  | d + 1, p => if isd (ch p) = true then 1 + ndg ch d (p + 1) else 0
def vl (ch : Nat → Int32) : Int32 → Nat → Nat → Int32
  | a, 0, _ => a
  | a, d + 1, p => vl ch ((10 * a + ch p) - 48) d (p + 1)
def mo (x : Int32) : Nat := if x = 107 then 1 else (if x = 109 then 6 else (if x = 110 then 1 else (if x = 116 then 6 else (if x = 119 then 2 else 0))))
def fwd (x : Int32) : Nat := if x = 119 then 2 else 1
def chx (zt : Nat → Int32) (c p : Nat) : Int32 := if p < c then zt p else -1
theorem ndg_le (ch : Nat → Int32) : ∀ d p, ndg ch d p ≤ d
  | 0, _ => Nat.le_refl _
  | d + 1, p => by
    have := ndg_le ch d (p + 1)
    rw [ndg]
    split <;> omega
theorem mo_le (x : Int32) : mo x ≤ 6 := by
  unfold mo
  split
  · omega
  · split
    · omega
    · split
      · omega
      · split
        · omega
        · split <;> omega
theorem r_here {zt : Nat → Int32} {c p : Nat} (hc : c ≤ 100) (hp : p < 2 ^ 30) : f_X10_here zt (nI c) (nI p) = some (chx zt c p) := by
  unfold f_X10_here chx
  by_cases h : p < c
  · rw [if_pos h]
    first
      | rw [if_neg (nI_ge h (by omega)), qe_rd _ (by omega) (by decide), ob_some]
      | rw [if_pos (nI_lt h (by omega)), qe_rd _ (by omega) (by decide), ob_some]
  · rw [if_neg h]
    first
      | rw [if_pos (nI_le (by omega) (by omega))]
      | rw [if_neg (nlt_le.mpr (nI_le (by omega) (by omega)))]
theorem e_sign {ts zt : Nat → Int32} {c p : Nat} (hc : c ≤ 100) (ht : ∀ j, j < c → ts j = zt j) (hp : p < 2 ^ 30) : f_X7_signAt (nI p) ts (nI c) = some (chx zt c p) := by
  unfold f_X7_signAt chx
  rw [if_neg (nI_pos (by omega))]
  by_cases h : p < c
  · rw [if_pos h, if_neg (nI_ge h (by omega)), qe_rd _ (by omega) (by decide), ob_some, ht p h]
  · rw [if_neg h, if_pos (nI_le (by omega) (by omega))]
theorem isd_lt {zt : Nat → Int32} {c p : Nat} (h : isd (chx zt c p) = true) : p < c := by
  by_cases q : p < c
  · exact q
  · unfold chx at h
    rw [if_neg q] at h
    exact absurd h (by decide)
theorem isd_nat {x : Int32} (h : isd x = true) : ∃ v, v < 10 ∧ x = nI (48 + v) := by
  unfold isd at h
  rw [decide_eq_true_eq] at h
  obtain ⟨v, h1, h2, rfl⟩ := in_nat (l := 48) (h := 57) (by decide) (by decide) h
  exact ⟨v - 48, by omega, by rw [show 48 + (v - 48) = v by omega]⟩
theorem r_dig_L {zt : Nat → Int32} {c M : Nat} (hc : c ≤ 100) (hM : M ≤ 6) (K : Int32 → Int32 → Int32 → Option (Int32 × Int32 × Int32)) : ∀ d i fu a p, i + d = M → d < fu → p + d < 2 ^ 20 → f_X10_digits_L4 (nI M) zt (nI c) 0 K fu a (nI i) (nI p) = K (vl (chx zt c) a (ndg (chx zt c) d p) p) (nI (i + ndg (chx zt c) d p)) (nI (p + ndg (chx zt c) d p))
  | d, i, 0, _, _, _, h, _ => by omega
  | 0, i, fu + 1, a, p, hi, _, _ => by
    rw [f_X10_digits_L4, if_pos rfl, if_pos (nI_le (by omega) (by omega))]
    rfl
  | d + 1, i, fu + 1, a, p, hi, hfu, hp => by
    have ein : f_X10_in ((chx zt c p).toInt64) 48 57 = some (if (48 : Int32) ≤ chx zt c p ∧ chx zt c p ≤ 57 then 1 else 0) := r_inN (by decide) (by decide)
    rw [f_X10_digits_L4, if_pos rfl, if_neg (nI_ge (by omega) (by omega)), r_here hc (by omega), ob_some, ein, ob_some, ndg]
    by_cases h : isd (chx zt c p) = true
    · have hlt := isd_lt h
      have h' := h
      unfold isd at h'
      rw [decide_eq_true_eq] at h'
      have e1 : zt p = chx zt c p := by
        unfold chx
        rw [if_pos hlt]
      rw [if_pos h', if_neg (show ¬ (1 : Int32) = 0 by decide), qe_rd _ (by omega) (by decide), ob_some, e1, if_pos h, nI_1, nI_1, r_dig_L hc hM K d (i + 1) fu _ (p + 1) (by omega) (by omega) (by omega), Nat.add_comm 1 (ndg _ d (p + 1)), vl, show i + 1 + ndg (chx zt c) d (p + 1) = i + (ndg (chx zt c) d (p + 1) + 1) by omega, show p + 1 + ndg (chx zt c) d (p + 1) = p + (ndg (chx zt c) d (p + 1) + 1) by omega]
    · have h' := h
      unfold isd at h'
      rw [decide_eq_true_eq] at h'
      rw [if_neg h', if_pos rfl, if_neg h]
      rfl
theorem r_digits {zt : Nat → Int32} {c M p : Nat} (hc : c ≤ 100) (hM : M ≤ 6) (hp : p < 2 ^ 19) : f_X10_digits (nI M) zt (nI c) (nI p) 0 = some (vl (chx zt c) 0 (ndg (chx zt c) M p) p, nI (p + ndg (chx zt c) M p), if ndg (chx zt c) M p = 0 then 3 else 0) := by
  unfold f_X10_digits
  have hl := ndg_le (chx zt c) M p
  refine Eq.trans (r_dig_L hc hM _ M 0 q_fu 0 p (by omega) (fu_lt (by omega)) (by omega)) ?_
  show (if (0 : Int32) = 0 then (if nI (0 + ndg (chx zt c) M p) = 0 then (some (vl (chx zt c) 0 (ndg (chx zt c) M p) p, nI (p + ndg (chx zt c) M p), (3 : Int32))) else (some (vl (chx zt c) 0 (ndg (chx zt c) M p) p, nI (p + ndg (chx zt c) M p), 0))) else (some (vl (chx zt c) 0 (ndg (chx zt c) M p) p, nI (p + ndg (chx zt c) M p), 0))) = _
  rw [if_pos rfl, Nat.zero_add]
  by_cases h : ndg (chx zt c) M p = 0
  · rw [if_pos h, h, if_pos (show nI 0 = (0 : Int32) from rfl)]
  · rw [if_neg h, if_neg (show ¬ nI (ndg (chx zt c) M p) = (0 : Int32) from fun q => h (nI_inj (b := 0) (by omega) (by omega) q))]
theorem r_digits3 {zt : Nat → Int32} (M c a : Int32) : f_X10_digits M zt c a 3 = some (0, a, 3) := by
  unfold f_X10_digits
  show f_X10_digits_L4 M zt c 3 _ (5999 + 1) 0 0 a = _
  rw [f_X10_digits_L4, if_neg (show ¬ (3 : Int32) = 0 by decide), if_neg (show ¬ (3 : Int32) = 0 by decide)]
theorem bnd_neg {α β : Type} {P : Prop} [Decidable P] (h : ¬ P) (x : Option α) (A B : α → Option β) : (x.bind fun t => if P then A t else B t) = x.bind fun t => B t := by
  rw [show (fun t => if P then A t else B t) = fun t => B t from funext fun t => if_neg h]
/-- a whole clause at p -/
def cok (ch : Nat → Int32) (p : Nat) : Prop := mo (ch p) ≠ 0 ∧ fwd (ch p) ≤ ndg ch (mo (ch p)) (p + 1)
def cend (ch : Nat → Int32) (p : Nat) : Nat := if mo (ch p) = 0 then p else p + 1 + ndg ch (mo (ch p)) (p + 1)
/-- the numbers of a clause -/
def cnum (ch : Nat → Int32) (p : Nat) (F S : Int32) : Prop := (ch p = 119 → F = vl ch 0 1 (p + 1) ∧ S = vl ch 0 1 (p + 2)) ∧ (ch p ≠ 119 → F = vl ch 0 (ndg ch (mo (ch p)) (p + 1)) (p + 1))
theorem r_one {zt le fi se : Nat → Int32} {c p cl M : Nat} {bg : Int32} (hc : c ≤ 100) (hp : p < 2 ^ 18) (hcl : cl < 12) (hM : M ≤ 6) (h1 : 1 ≤ M) (hmo : mo (chx zt c p) = M) (hne : chx zt c p ≠ 119) : ∃ R, ((f_X10_digits (nI M) zt (nI c) (nI p + 1) 0).bind fun t16 => if t16.2.2 = 0 then ((q_wt le 12 (nI cl) (chx zt c p)).bind fun t19 => (q_wt fi 12 (nI cl) t16.1).bind fun t20 => (q_wt se 12 (nI cl) 0).bind fun t21 => some (t16.2.1, t16.2.2, nI cl + 1, nI p, t19, t20, t21)) else (some (t16.2.1, t16.2.2, nI cl, nI p, le, fi, se))) = some R ∧ ((cok (chx zt c) p ∧ ∃ F S, cnum (chx zt c) p F S ∧ R = (nI (cend (chx zt c) p), 0, nI (cl + 1), nI p, upd le cl (chx zt c p), upd fi cl F, upd se cl S)) ∨ (¬ cok (chx zt c) p ∧ p < cend (chx zt c) p ∧ R = (nI (cend (chx zt c) p), 3, nI cl, nI p, le, fi, se))) := by
  have e0 : cend (chx zt c) p = p + 1 + ndg (chx zt c) M (p + 1) := by
    unfold cend
    rw [hmo, if_neg (by omega)]
  have ec : cok (chx zt c) p ↔ ¬ ndg (chx zt c) M (p + 1) = 0 := by
    unfold cok fwd
    rw [hmo, if_neg hne]
    omega
  rw [nI_1, r_digits hc hM (by omega), ob_some]
  by_cases h : ndg (chx zt c) M (p + 1) = 0
  · rw [if_pos h, if_neg (show ¬ (3 : Int32) = 0 by decide)]
    exact ⟨_, rfl, Or.inr ⟨fun q => ec.mp q h, by omega, by rw [e0]⟩⟩
  · rw [if_neg h, if_pos rfl, qe_wt _ _ hcl (by decide), ob_some, qe_wt _ _ hcl (by decide), ob_some, qe_wt _ _ hcl (by decide), ob_some]
    refine ⟨_, rfl, Or.inl ⟨ec.mpr h, _, _, ⟨fun q => absurd q hne, fun _ => ?_⟩, by rw [e0, nI_1]⟩⟩
    rw [hmo]
theorem r_clause {zt le fi se : Nat → Int32} {c p cl : Nat} {bg : Int32} (hc : c ≤ 100) (hp : p < 2 ^ 18) (hcl : cl < 12) : ∃ R, f_X10_clause zt (nI c) (nI p) 0 (nI cl) bg le fi se = some R ∧ ((cok (chx zt c) p ∧ ∃ F S, cnum (chx zt c) p F S ∧ R = (nI (cend (chx zt c) p), 0, nI (cl + 1), nI p, upd le cl (chx zt c p), upd fi cl F, upd se cl S)) ∨ (¬ cok (chx zt c) p ∧ ∃ lk, R = (nI (cend (chx zt c) p), lk, nI cl, nI p, le, fi, se) ∧ (lk = 3 ∧ p < cend (chx zt c) p ∨ lk = 4 ∧ cend (chx zt c) p = p))) := by
  have one : ∀ {M : Nat}, M ≤ 6 → 1 ≤ M → mo (chx zt c p) = M → chx zt c p ≠ 119 → ∃ R, ((f_X10_digits (nI M) zt (nI c) (nI p + 1) 0).bind fun t16 => if t16.2.2 = 0 then ((q_wt le 12 (nI cl) (chx zt c p)).bind fun t19 => (q_wt fi 12 (nI cl) t16.1).bind fun t20 => (q_wt se 12 (nI cl) 0).bind fun t21 => some (t16.2.1, t16.2.2, nI cl + 1, nI p, t19, t20, t21)) else (some (t16.2.1, t16.2.2, nI cl, nI p, le, fi, se))) = some R ∧ ((cok (chx zt c) p ∧ ∃ F S, cnum (chx zt c) p F S ∧ R = (nI (cend (chx zt c) p), 0, nI (cl + 1), nI p, upd le cl (chx zt c p), upd fi cl F, upd se cl S)) ∨ (¬ cok (chx zt c) p ∧ ∃ lk, R = (nI (cend (chx zt c) p), lk, nI cl, nI p, le, fi, se) ∧ (lk = 3 ∧ p < cend (chx zt c) p ∨ lk = 4 ∧ cend (chx zt c) p = p))) := by
    intro M h1 h2 h3 h4
    obtain ⟨R, e, h⟩ := r_one (zt := zt) (le := le) (fi := fi) (se := se) (bg := bg) hc hp hcl h1 h2 h3 h4
    exact ⟨R, e, h.imp_right (fun ⟨a, b, d⟩ => ⟨a, 3, d, Or.inl ⟨rfl, b⟩⟩)⟩
  unfold f_X10_clause
  rw [r_here hc (by omega), ob_some]
  by_cases a1 : chx zt c p = 110
  · have o := one (M := 1) (by omega) (by omega) (by rw [a1]; decide) (by rw [a1]; decide)
    rw [if_pos a1, if_neg (show ¬ chx zt c p = 116 by rw [a1]; decide), if_neg (show ¬ chx zt c p = 109 by rw [a1]; decide), bnd_neg (show ¬ chx zt c p = 119 by rw [a1]; decide)]
    exact o
  rw [if_neg a1]
  by_cases a2 : chx zt c p = 107
  · have o := one (M := 1) (by omega) (by omega) (by rw [a2]; decide) (by rw [a2]; decide)
    rw [if_pos a2, if_neg (show ¬ chx zt c p = 116 by rw [a2]; decide), if_neg (show ¬ chx zt c p = 109 by rw [a2]; decide), bnd_neg (show ¬ chx zt c p = 119 by rw [a2]; decide)]
    exact o
  rw [if_neg a2]
  by_cases a3 : chx zt c p = 119
  · have hmo : mo (chx zt c p) = 2 := by rw [a3]; decide
    have e0 : cend (chx zt c) p = p + 1 + ndg (chx zt c) 2 (p + 1) := by
      unfold cend
      rw [hmo, if_neg (by omega)]
    have ec : cok (chx zt c) p ↔ 2 ≤ ndg (chx zt c) 2 (p + 1) := by
      unfold cok fwd
      rw [hmo, if_pos a3]
      omega
    have n2 : ndg (chx zt c) 2 (p + 1) = if isd (chx zt c (p + 1)) = true then 1 + (if isd (chx zt c (p + 2)) = true then 1 else 0) else 0 := rfl
    have n1 : ∀ q, ndg (chx zt c) 1 q = if isd (chx zt c q) = true then 1 else 0 := fun q => rfl
    rw [if_pos a3, if_neg (show ¬ chx zt c p = 116 by rw [a3]; decide), if_neg (show ¬ chx zt c p = 109 by rw [a3]; decide), nI_1, show (1 : Int32) = nI 1 from rfl, r_digits hc (by omega) (by omega), ob_some, if_pos a3]
    by_cases d1 : isd (chx zt c (p + 1)) = true
    · rw [n1, if_pos d1, if_neg (show ¬ (1 : Nat) = 0 by decide), show p + 1 + 1 = p + 2 by omega, r_digits hc (by omega) (by omega), ob_some, n1]
      by_cases d2 : isd (chx zt c (p + 2)) = true
      · rw [if_pos d2, if_neg (show ¬ (1 : Nat) = 0 by decide), if_pos rfl, qe_wt _ _ hcl (by decide), ob_some, qe_wt _ _ hcl (by decide), ob_some, qe_wt _ _ hcl (by decide), ob_some]
        rw [if_pos d1, if_pos d2] at n2
        refine ⟨_, rfl, Or.inl ⟨ec.mpr (by omega), _, _, ⟨fun _ => ⟨rfl, rfl⟩, fun q => absurd a3 q⟩, ?_⟩⟩
        rw [e0, n2, nI_add]
      · rw [if_neg d2, if_pos rfl, if_neg (show ¬ (3 : Int32) = 0 by decide)]
        rw [if_pos d1, if_neg d2] at n2
        refine ⟨_, rfl, Or.inr ⟨fun q => by have := ec.mp q; omega, 3, ?_, Or.inl ⟨rfl, by omega⟩⟩⟩
        rw [e0, n2]
    · rw [n1, if_neg d1, if_pos rfl, r_digits3, ob_some, if_neg (show ¬ (3 : Int32) = 0 by decide)]
      rw [if_neg d1] at n2
      refine ⟨_, rfl, Or.inr ⟨fun q => by have := ec.mp q; omega, 3, ?_, Or.inl ⟨rfl, by omega⟩⟩⟩
      rw [e0, n2]
  rw [if_neg a3]
  by_cases a4 : chx zt c p = 116
  · have o := one (M := 6) (by omega) (by omega) (by rw [a4]; decide) (by rw [a4]; decide)
    rw [if_pos a4, if_pos a4, bnd_neg (show ¬ chx zt c p = 119 by rw [a4]; decide)]
    exact o
  rw [if_neg a4]
  by_cases a5 : chx zt c p = 109
  · have o := one (M := 6) (by omega) (by omega) (by rw [a5]; decide) (by rw [a5]; decide)
    rw [if_pos a5, if_neg (show ¬ chx zt c p = 116 by rw [a5]; decide), if_pos a5, bnd_neg (show ¬ chx zt c p = 119 by rw [a5]; decide)]
    exact o
  rw [if_neg a5]
  have hmo : mo (chx zt c p) = 0 := by
    unfold mo
    rw [if_neg a2, if_neg a5, if_neg a1, if_neg a4, if_neg a3]
  have e0 : cend (chx zt c) p = p := by
    unfold cend
    rw [hmo, if_pos rfl]
  exact ⟨_, rfl, Or.inr ⟨fun q => q.1 hmo, 4, by rw [e0], Or.inr ⟨rfl, e0⟩⟩⟩
