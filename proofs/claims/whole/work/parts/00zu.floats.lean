-- ===== numbers as floats: the operations =====
theorem lg2_eq {c t : Nat} (h1 : 2 ^ t ≤ c) (h2 : c < 2 ^ (t + 1)) : c.log2 = t := by
  have h0 : c ≠ 0 := by
    have : 0 < 2 ^ t := Nat.pow_pos (by decide)
    omega
  exact (Nat.log2_eq_iff h0).mpr ⟨h1, h2⟩
theorem lg2_le {c t : Nat} (h0 : 0 < c) (h2 : c < 2 ^ (t + 1)) : c.log2 ≤ t := Nat.lt_succ_iff.mp ((Nat.log2_lt (by omega)).mpr h2)
theorem lg2_ge {c t : Nat} (h1 : 2 ^ t ≤ c) : t ≤ c.log2 := by
  have h0 : 0 < 2 ^ t := Nat.pow_pos (by decide)
  exact (Nat.le_log2 (by omega)).mpr h1
theorem lg2_1 : (1 : Nat).log2 = 0 := by decide
def oz (f : FP.Core.Fmt) (lo hi : Int) (s : Bool) (d : FP.Core.Datum) : Prop := d = .fin s 0 f.qmin ∨ nz f lo hi s d
theorem rr_zero {f : FP.Core.Fmt} {s : Bool} {b : Nat} {e : Int} : FP.Core.roundRatio f s 0 b e = .fin s 0 f.qmin := by
  unfold FP.Core.roundRatio
  rw [if_pos rfl]
theorem dv_nz {f : FP.Core.Fmt} {lo hi lo1 hi1 lo2 hi2 : Int} {s t : Bool} {x y : FP.Core.Datum} (hp : 1 ≤ f.p) (hx : nz f lo1 hi1 s x) (hy : nz f lo2 hi2 t y) (h1 : f.qmin ≤ lo) (h2 : hi ≤ f.qmax) (h3 : lo ≤ lo1 - hi2 - f.p) (h4 : hi1 - lo2 - f.p + 2 ≤ hi) : nz f lo hi (s != t) (FP.Core.quotient f x y) := by
  obtain ⟨c, q, rfl, c1, c2, q1, q2⟩ := hx
  obtain ⟨d, r, rfl, d1, d2, r1, r2⟩ := hy
  have hd : 0 < d := Nat.lt_of_lt_of_le (Nat.pow_pos (by decide)) d1
  have hc : 0 < c := Nat.lt_of_lt_of_le (Nat.pow_pos (by decide)) c1
  have l1 := lg2_eq (t := f.p - 1) c1 (by rw [show f.p - 1 + 1 = f.p by omega]; exact c2)
  have l2 := lg2_eq (t := f.p - 1) d1 (by rw [show f.p - 1 + 1 = f.p by omega]; exact d2)
  have hr := ld_rng c d
  rw [l1, l2] at hr
  show nz f lo hi (s != t) (if d = 0 then (if c = 0 then .nan else .inf (s != t)) else FP.Core.roundRatio f (s != t) c d (q - r))
  rw [if_neg (by omega)]
  exact rr_norm hp hc hd h1 h2 (by omega) (by omega)
theorem dv_0 {f : FP.Core.Fmt} {lo2 hi2 : Int} {s t : Bool} {y : FP.Core.Datum} (hy : nz f lo2 hi2 t y) : FP.Core.quotient f (.fin s 0 f.qmin) y = .fin (s != t) 0 f.qmin := by
  obtain ⟨d, r, rfl, d1, d2, r1, r2⟩ := hy
  have hd : 0 < d := Nat.lt_of_lt_of_le (Nat.pow_pos (by decide)) d1
  show (if d = 0 then (if 0 = 0 then .nan else .inf (s != t)) else FP.Core.roundRatio f (s != t) 0 d (f.qmin - r)) = _
  rw [if_neg (by omega), rr_zero]
theorem ml_nz {f : FP.Core.Fmt} {lo hi lo1 hi1 lo2 hi2 : Int} {s t : Bool} {x y : FP.Core.Datum} (hp : 1 ≤ f.p) (hx : nz f lo1 hi1 s x) (hy : nz f lo2 hi2 t y) (h1 : f.qmin ≤ lo) (h2 : hi ≤ f.qmax) (h3 : lo ≤ lo1 + lo2 + f.p - 2) (h4 : hi1 + hi2 + f.p + 1 ≤ hi) : nz f lo hi (s != t) (FP.Core.round f (FP.Core.exactProduct x y)) := by
  obtain ⟨c, q, rfl, c1, c2, q1, q2⟩ := hx
  obtain ⟨d, r, rfl, d1, d2, r1, r2⟩ := hy
  have hd : 0 < d := Nat.lt_of_lt_of_le (Nat.pow_pos (by decide)) d1
  have hc : 0 < c := Nat.lt_of_lt_of_le (Nat.pow_pos (by decide)) c1
  have hcd : 0 < c * d := Nat.mul_pos hc hd
  have l1 : 2 * (f.p - 1) ≤ (c * d).log2 := lg2_ge (by
    rw [Nat.two_mul, Nat.pow_add]
    exact Nat.mul_le_mul c1 d1)
  have l2 : (c * d).log2 ≤ 2 * f.p - 1 := lg2_le hcd (by
    rw [show 2 * f.p - 1 + 1 = f.p + f.p by omega, Nat.pow_add]
    exact Nat.mul_lt_mul_of_lt_of_le c2 (Nat.le_of_lt d2) (Nat.pow_pos (by decide)))
  have hr := ld_rng (c * d) 1
  rw [lg2_1] at hr
  show nz f lo hi (s != t) (FP.Core.roundRatio f (s != t) (c * d) 1 (q + r))
  exact rr_norm hp hcd (by decide) h1 h2 (by omega) (by omega)
theorem ml_0 {f : FP.Core.Fmt} {s t : Bool} {c : Nat} {q r : Int} : FP.Core.round f (FP.Core.exactProduct (.fin s 0 q) (.fin t c r)) = .fin (s != t) 0 f.qmin := by
  show FP.Core.roundRatio f (s != t) (0 * c) 1 (q + r) = _
  rw [Nat.zero_mul, rr_zero]
theorem sg_abs (s : Bool) (c : Nat) : (FP.Core.signed s c).natAbs = c := by
  unfold FP.Core.signed
  split <;> omega
theorem pw_up {a b : Nat} (h : a ≤ b) : 2 ^ a ≤ 2 ^ b := Nat.pow_le_pow_right (by decide) h
theorem sm_nz {f : FP.Core.Fmt} {lo hi lo1 hi1 : Int} {s t : Bool} {x y : FP.Core.Datum} (hp : 1 ≤ f.p) (hx : oz f lo1 hi1 s x) (hy : oz f lo1 hi1 t y) (h0 : f.qmin ≤ lo1) (h1 : f.qmin ≤ lo) (h2 : hi ≤ f.qmax) (h3 : lo ≤ lo1 - f.p) (h4 : hi1 + 2 ≤ hi) : ∃ u, oz f lo hi u (FP.Core.round f (FP.Core.exactSum x y)) ∧ (s = false → t = false → u = false) := by
  have key : ∀ (c : Nat) (q : Int) (d : Nat) (r : Int), x = .fin s c q → y = .fin t d r → (∀ v : Int, FP.Core.sumUnits s c q t d r (min q r) = v → v = 0 ∨ ((v.natAbs.log2 : Int) + min q r ≤ hi1 + f.p ∧ lo1 ≤ (v.natAbs.log2 : Int) + min q r)) → ∃ u, oz f lo hi u (FP.Core.round f (FP.Core.exactSum x y)) ∧ (s = false → t = false → u = false) := by
    intro c q d r ex ey hv
    subst ex; subst ey
    show ∃ u, oz f lo hi u (FP.Core.roundRatio f (FP.Core.sumSign s t (FP.Core.sumUnits s c q t d r (min q r))) (FP.Core.sumUnits s c q t d r (min q r)).natAbs 1 (min q r)) ∧ (s = false → t = false → u = false)
    refine ⟨FP.Core.sumSign s t (FP.Core.sumUnits s c q t d r (min q r)), ?_, ?_⟩
    · rcases hv _ rfl with h | ⟨h5, h6⟩
      · rw [h]
        exact Or.inl rr_zero
      · by_cases hz : FP.Core.sumUnits s c q t d r (min q r) = 0
        · rw [hz]
          exact Or.inl rr_zero
        · have hr := ld_rng (FP.Core.sumUnits s c q t d r (min q r)).natAbs 1
          rw [lg2_1] at hr
          exact Or.inr (rr_norm hp (by omega) (by decide) h1 h2 (by omega) (by omega))
    · rintro rfl rfl
      unfold FP.Core.sumSign
      have h7 : 0 ≤ FP.Core.sumUnits false c q false d r (min q r) := by
        unfold FP.Core.sumUnits FP.Core.signed
        rw [if_neg (by decide), if_neg (by decide)]
        omega
      split
      · rfl
      · exact decide_eq_false (by omega)
  have hpp : 0 < 2 ^ (f.p - 1) := Nat.pow_pos (by decide)
  rcases hx with hx | ⟨c, q, hx, c1, c2, q1, q2⟩
  · rcases hy with hy | ⟨d, r, hy, d1, d2, r1, r2⟩
    · refine key _ _ _ _ hx hy (fun v hv => Or.inl ?_)
      rw [← hv]
      unfold FP.Core.sumUnits FP.Core.inUnits FP.Core.signed
      rw [Nat.zero_mul]
      split <;> split <;> rfl
    · refine key _ _ _ _ hx hy (fun v hv => Or.inr ?_)
      have e1 : v.natAbs = d * 2 ^ (r - f.qmin).toNat := by
        rw [← hv]
        unfold FP.Core.sumUnits FP.Core.inUnits
        rw [Nat.zero_mul, show min f.qmin r = f.qmin by omega]
        have := sg_abs t (d * 2 ^ (r - f.qmin).toNat)
        have e0 : FP.Core.signed s 0 = 0 := by unfold FP.Core.signed; split <;> rfl
        rw [e0, Int.zero_add]
        exact this
      have e2 : v.natAbs.log2 = f.p - 1 + (r - f.qmin).toNat := by
        rw [e1]
        refine lg2_eq ?_ ?_
        · rw [Nat.pow_add]; exact Nat.mul_le_mul_right _ d1
        · rw [show f.p - 1 + (r - f.qmin).toNat + 1 = f.p + (r - f.qmin).toNat by omega, Nat.pow_add]
          exact (Nat.mul_lt_mul_right (Nat.pow_pos (by decide))).mpr d2
      rw [e2, show min f.qmin r = f.qmin by omega]
      omega
  · rcases hy with hy | ⟨d, r, hy, d1, d2, r1, r2⟩
    · refine key _ _ _ _ hx hy (fun v hv => Or.inr ?_)
      have e1 : v.natAbs = c * 2 ^ (q - f.qmin).toNat := by
        rw [← hv]
        unfold FP.Core.sumUnits FP.Core.inUnits
        rw [Nat.zero_mul, show min q f.qmin = f.qmin by omega]
        have := sg_abs s (c * 2 ^ (q - f.qmin).toNat)
        have e0 : FP.Core.signed t 0 = 0 := by unfold FP.Core.signed; split <;> rfl
        rw [e0, Int.add_zero]
        exact this
      have e2 : v.natAbs.log2 = f.p - 1 + (q - f.qmin).toNat := by
        rw [e1]
        refine lg2_eq ?_ ?_
        · rw [Nat.pow_add]; exact Nat.mul_le_mul_right _ c1
        · rw [show f.p - 1 + (q - f.qmin).toNat + 1 = f.p + (q - f.qmin).toNat by omega, Nat.pow_add]
          exact (Nat.mul_lt_mul_right (Nat.pow_pos (by decide))).mpr c2
      rw [e2, show min q f.qmin = f.qmin by omega]
      omega
    · refine key _ _ _ _ hx hy (fun v hv => ?_)
      by_cases h : v = 0
      · exact Or.inl h
      · refine Or.inr ⟨?_, by omega⟩
        have a1 : c * 2 ^ (q - min q r).toNat < 2 ^ (f.p + (hi1 - min q r).toNat) := by
          rw [Nat.pow_add]
          exact Nat.mul_lt_mul_of_lt_of_le c2 (pw_up (by omega)) (Nat.pow_pos (by decide))
        have a2 : d * 2 ^ (r - min q r).toNat < 2 ^ (f.p + (hi1 - min q r).toNat) := by
          rw [Nat.pow_add]
          exact Nat.mul_lt_mul_of_lt_of_le d2 (pw_up (by omega)) (Nat.pow_pos (by decide))
        have a3 : v.natAbs < 2 ^ (f.p + (hi1 - min q r).toNat + 1) := by
          have s1 := sg_abs s (c * 2 ^ (q - min q r).toNat)
          have s2 := sg_abs t (d * 2 ^ (r - min q r).toNat)
          have hv' : FP.Core.signed s (c * 2 ^ (q - min q r).toNat) + FP.Core.signed t (d * 2 ^ (r - min q r).toNat) = v := hv
          rw [Nat.pow_succ]
          omega
        have := lg2_le (c := v.natAbs) (by omega) a3
        omega
theorem id_nz {f : FP.Core.Fmt} {lo hi : Int} {n j : Nat} (hp : 1 ≤ f.p) (hn : 0 < n) (hj : n < 2 ^ (j + 1)) (h1 : f.qmin ≤ lo) (h2 : hi ≤ f.qmax) (h3 : lo ≤ -(f.p : Int)) (h4 : (j : Int) - f.p + 2 ≤ hi) : nz f lo hi false (FP.Core.round f (FP.Core.ofInt (n : Int))) := by
  have hr := ld_rng n 1
  rw [lg2_1] at hr
  have := lg2_le hn hj
  show nz f lo hi false (FP.Core.roundRatio f (decide ((n : Int) < 0)) (n : Int).natAbs 1 0)
  rw [decide_eq_false (by omega), Int.natAbs_natCast]
  exact rr_norm hp hn (by decide) h1 h2 (by omega) (by omega)
theorem tl_64 : FP.Core.b64.tails = 4503599627370496 := by decide
theorem ex_64 : FP.Core.b64.exps = 2048 := by decide
theorem qm_64 : FP.Core.b64.qmin = -1074 := by decide
theorem qx_64 : FP.Core.b64.qmax = 971 := by decide
theorem en_64 {s : Bool} {c : Nat} {q : Int} (h1 : 4503599627370496 ≤ c) : FP.Core.encode FP.Core.b64 (.fin s c q) = (s.toNat * 2048 + ((q + 1074).toNat + 1)) * 4503599627370496 + (c - 4503599627370496) := by
  unfold FP.Core.encode FP.Core.assemble
  show (if c < FP.Core.b64.tails then (s.toNat * FP.Core.b64.exps + 0) * FP.Core.b64.tails + c else (s.toNat * FP.Core.b64.exps + ((q - FP.Core.b64.qmin).toNat + 1)) * FP.Core.b64.tails + (c - FP.Core.b64.tails)) = _
  rw [tl_64, ex_64, qm_64, if_neg (by omega), Int.sub_neg]
theorem de_64 {s : Bool} {c : Nat} {q : Int} (h1 : 4503599627370496 ≤ c) (h2 : c < 9007199254740992) (h3 : -1074 ≤ q) (h4 : q ≤ 971) : FP.Core.decode FP.Core.b64 (FP.Core.encode FP.Core.b64 (.fin s c q)) = .fin s c q := by
  rw [en_64 h1]
  unfold FP.Core.decode FP.Core.fieldE FP.Core.fieldT FP.Core.fieldS
  rw [tl_64, ex_64, qm_64]
  obtain ⟨E, hE⟩ : ∃ E, (q + 1074).toNat + 1 = E := ⟨_, rfl⟩
  obtain ⟨t, ht⟩ : ∃ t, c - 4503599627370496 = t := ⟨_, rfl⟩
  rw [hE, ht]
  have e1 : ((s.toNat * 2048 + E) * 4503599627370496 + t) / 4503599627370496 = s.toNat * 2048 + E := by omega
  have e2 : ((s.toNat * 2048 + E) * 4503599627370496 + t) % 4503599627370496 = t := by omega
  have e3 : (s.toNat * 2048 + E) % 2048 = E := by rw [Nat.add_comm, Nat.add_mul_mod_self_right, Nat.mod_eq_of_lt (by omega)]
  have e4 : ((s.toNat * 2048 + E) / 2048 % 2 == 1) = s := by
    cases s
    · show ((0 * 2048 + E) / 2048 % 2 == 1) = false
      rw [show (0 * 2048 + E) / 2048 % 2 = 0 by omega]
      rfl
    · show ((1 * 2048 + E) / 2048 % 2 == 1) = true
      rw [show (1 * 2048 + E) / 2048 % 2 = 1 by omega]
      rfl
  rw [e1, e2, e3, e4, if_neg (by omega), if_neg (by omega), show 4503599627370496 + t = c by omega, show (-1074 : Int) + ((E : Int) - 1) = q by omega]
theorem lt_64 {s : Bool} {c : Nat} {q : Int} (h1 : 4503599627370496 ≤ c) (h2 : c < 9007199254740992) (h3 : -1074 ≤ q) (h4 : q ≤ 971) : FP.Core.encode FP.Core.b64 (.fin s c q) < 2 ^ 64 ∧ FP.Core.encode FP.Core.b64 (.fin s c q) % 2 ^ 63 ≤ 9218868437227405312 := by
  rw [en_64 h1]
  cases s
  · show (0 * 2048 + ((q + 1074).toNat + 1)) * 4503599627370496 + (c - 4503599627370496) < 2 ^ 64 ∧ ((0 * 2048 + ((q + 1074).toNat + 1)) * 4503599627370496 + (c - 4503599627370496)) % 2 ^ 63 ≤ 9218868437227405312
    omega
  · show (1 * 2048 + ((q + 1074).toNat + 1)) * 4503599627370496 + (c - 4503599627370496) < 2 ^ 64 ∧ ((1 * 2048 + ((q + 1074).toNat + 1)) * 4503599627370496 + (c - 4503599627370496)) % 2 ^ 63 ≤ 9218868437227405312
    omega
def B64 (d : FP.Core.Datum) : UInt64 := UInt64.ofNat (FP.Core.encode FP.Core.b64 d)
theorem Bn_64 {d : FP.Core.Datum} (h : FP.Core.encode FP.Core.b64 d < 2 ^ 64) : (B64 d).toNat = FP.Core.encode FP.Core.b64 d := by
  show (BitVec.ofNat 64 (FP.Core.encode FP.Core.b64 d)).toNat = _
  rw [BitVec.toNat_ofNat, Nat.mod_eq_of_lt h]
theorem oz_64 {lo hi : Int} {s : Bool} {d : FP.Core.Datum} (h : oz FP.Core.b64 lo hi s d) (h1 : -1074 ≤ lo) (h2 : hi ≤ 971) : FP.Core.decode FP.Core.b64 (B64 d).toNat = d ∧ q_n64 (B64 d) = some (B64 d) := by
  have hb : FP.Core.encode FP.Core.b64 d < 2 ^ 64 ∧ FP.Core.encode FP.Core.b64 d % 2 ^ 63 ≤ 9218868437227405312 ∧ FP.Core.decode FP.Core.b64 (FP.Core.encode FP.Core.b64 d) = d := by
    rcases h with rfl | ⟨c, q, rfl, c1, c2, q1, q2⟩
    · cases s <;> decide
    · have c1' : 4503599627370496 ≤ c := c1
      have c2' : c < 9007199254740992 := c2
      obtain ⟨a1, a2⟩ := lt_64 (s := s) c1' c2' (show -1074 ≤ q by omega) (show q ≤ 971 by omega)
      exact ⟨a1, a2, de_64 c1' c2' (by omega) (by omega)⟩
  obtain ⟨b1, b2, b3⟩ := hb
  have e := Bn_64 b1
  refine ⟨by rw [e, b3], ?_⟩
  unfold q_n64
  refine if_pos ?_
  rw [UInt64.le_iff_toNat_le, UInt64.toNat_and, e]
  show FP.Core.encode FP.Core.b64 d &&& (2 ^ 63 - 1) ≤ 9218868437227405312
  rw [Nat.and_two_pow_sub_one_eq_mod]
  exact b2
theorem tl_32 : FP.Core.b32.tails = 8388608 := by decide
theorem ex_32 : FP.Core.b32.exps = 256 := by decide
theorem qm_32 : FP.Core.b32.qmin = -149 := by decide
theorem qx_32 : FP.Core.b32.qmax = 104 := by decide
theorem en_32 {s : Bool} {c : Nat} {q : Int} (h1 : 8388608 ≤ c) : FP.Core.encode FP.Core.b32 (.fin s c q) = (s.toNat * 256 + ((q + 149).toNat + 1)) * 8388608 + (c - 8388608) := by
  unfold FP.Core.encode FP.Core.assemble
  show (if c < FP.Core.b32.tails then (s.toNat * FP.Core.b32.exps + 0) * FP.Core.b32.tails + c else (s.toNat * FP.Core.b32.exps + ((q - FP.Core.b32.qmin).toNat + 1)) * FP.Core.b32.tails + (c - FP.Core.b32.tails)) = _
  rw [tl_32, ex_32, qm_32, if_neg (by omega), Int.sub_neg]
theorem de_32 {s : Bool} {c : Nat} {q : Int} (h1 : 8388608 ≤ c) (h2 : c < 16777216) (h3 : -149 ≤ q) (h4 : q ≤ 104) : FP.Core.decode FP.Core.b32 (FP.Core.encode FP.Core.b32 (.fin s c q)) = .fin s c q := by
  rw [en_32 h1]
  unfold FP.Core.decode FP.Core.fieldE FP.Core.fieldT FP.Core.fieldS
  rw [tl_32, ex_32, qm_32]
  obtain ⟨E, hE⟩ : ∃ E, (q + 149).toNat + 1 = E := ⟨_, rfl⟩
  obtain ⟨t, ht⟩ : ∃ t, c - 8388608 = t := ⟨_, rfl⟩
  rw [hE, ht]
  have e1 : ((s.toNat * 256 + E) * 8388608 + t) / 8388608 = s.toNat * 256 + E := by omega
  have e2 : ((s.toNat * 256 + E) * 8388608 + t) % 8388608 = t := by omega
  have e3 : (s.toNat * 256 + E) % 256 = E := by rw [Nat.add_comm, Nat.add_mul_mod_self_right, Nat.mod_eq_of_lt (by omega)]
  have e4 : ((s.toNat * 256 + E) / 256 % 2 == 1) = s := by
    cases s
    · show ((0 * 256 + E) / 256 % 2 == 1) = false
      rw [show (0 * 256 + E) / 256 % 2 = 0 by omega]
      rfl
    · show ((1 * 256 + E) / 256 % 2 == 1) = true
      rw [show (1 * 256 + E) / 256 % 2 = 1 by omega]
      rfl
  rw [e1, e2, e3, e4, if_neg (by omega), if_neg (by omega), show 8388608 + t = c by omega, show (-149 : Int) + ((E : Int) - 1) = q by omega]
theorem lt_32 {s : Bool} {c : Nat} {q : Int} (h1 : 8388608 ≤ c) (h2 : c < 16777216) (h3 : -149 ≤ q) (h4 : q ≤ 104) : FP.Core.encode FP.Core.b32 (.fin s c q) < 2 ^ 32 ∧ FP.Core.encode FP.Core.b32 (.fin s c q) % 2 ^ 31 ≤ 2139095040 := by
  rw [en_32 h1]
  cases s
  · show (0 * 256 + ((q + 149).toNat + 1)) * 8388608 + (c - 8388608) < 2 ^ 32 ∧ ((0 * 256 + ((q + 149).toNat + 1)) * 8388608 + (c - 8388608)) % 2 ^ 31 ≤ 2139095040
    omega
  · show (1 * 256 + ((q + 149).toNat + 1)) * 8388608 + (c - 8388608) < 2 ^ 32 ∧ ((1 * 256 + ((q + 149).toNat + 1)) * 8388608 + (c - 8388608)) % 2 ^ 31 ≤ 2139095040
    omega
def B32 (d : FP.Core.Datum) : UInt32 := UInt32.ofNat (FP.Core.encode FP.Core.b32 d)
theorem Bn_32 {d : FP.Core.Datum} (h : FP.Core.encode FP.Core.b32 d < 2 ^ 32) : (B32 d).toNat = FP.Core.encode FP.Core.b32 d := by
  show (BitVec.ofNat 32 (FP.Core.encode FP.Core.b32 d)).toNat = _
  rw [BitVec.toNat_ofNat, Nat.mod_eq_of_lt h]
theorem oz_32 {lo hi : Int} {s : Bool} {d : FP.Core.Datum} (h : oz FP.Core.b32 lo hi s d) (h1 : -149 ≤ lo) (h2 : hi ≤ 104) : FP.Core.decode FP.Core.b32 (B32 d).toNat = d ∧ q_n32 (B32 d) = some (B32 d) := by
  have hb : FP.Core.encode FP.Core.b32 d < 2 ^ 32 ∧ FP.Core.encode FP.Core.b32 d % 2 ^ 31 ≤ 2139095040 ∧ FP.Core.decode FP.Core.b32 (FP.Core.encode FP.Core.b32 d) = d := by
    rcases h with rfl | ⟨c, q, rfl, c1, c2, q1, q2⟩
    · cases s <;> decide
    · have c1' : 8388608 ≤ c := c1
      have c2' : c < 16777216 := c2
      obtain ⟨a1, a2⟩ := lt_32 (s := s) c1' c2' (show -149 ≤ q by omega) (show q ≤ 104 by omega)
      exact ⟨a1, a2, de_32 c1' c2' (by omega) (by omega)⟩
  obtain ⟨b1, b2, b3⟩ := hb
  have e := Bn_32 b1
  refine ⟨by rw [e, b3], ?_⟩
  unfold q_n32
  refine if_pos ?_
  rw [UInt32.le_iff_toNat_le, UInt32.toNat_and, e]
  show FP.Core.encode FP.Core.b32 d &&& (2 ^ 31 - 1) ≤ 2139095040
  rw [Nat.and_two_pow_sub_one_eq_mod]
  exact b2
