-- ===== rounding: what comes of it is written with all its digits =====
theorem ld_spec {a b : Nat} (ha : 0 < a) (hb : 0 < b) : b * 2 ^ (FP.Core.leading a b).toNat ≤ a * 2 ^ (-(FP.Core.leading a b)).toNat ∧ a * 2 ^ (-(FP.Core.leading a b + 1)).toNat < b * 2 ^ (FP.Core.leading a b + 1).toNat := by
  have a1 : 2 ^ a.log2 ≤ a := Nat.log2_self_le (by omega)
  have a2 : a < 2 ^ (a.log2 + 1) := Nat.lt_log2_self
  have b1 : 2 ^ b.log2 ≤ b := Nat.log2_self_le (by omega)
  have b2 : b < 2 ^ (b.log2 + 1) := Nat.lt_log2_self
  unfold FP.Core.leading
  generalize a.log2 = x at *
  generalize b.log2 = y at *
  show (b * 2 ^ (if b * 2 ^ ((x : Int) - y).toNat ≤ a * 2 ^ (-((x : Int) - y)).toNat then (x : Int) - y else (x : Int) - y - 1).toNat ≤ a * 2 ^ (-(if b * 2 ^ ((x : Int) - y).toNat ≤ a * 2 ^ (-((x : Int) - y)).toNat then (x : Int) - y else (x : Int) - y - 1)).toNat) ∧ (a * 2 ^ (-((if b * 2 ^ ((x : Int) - y).toNat ≤ a * 2 ^ (-((x : Int) - y)).toNat then (x : Int) - y else (x : Int) - y - 1) + 1)).toNat < b * 2 ^ ((if b * 2 ^ ((x : Int) - y).toNat ≤ a * 2 ^ (-((x : Int) - y)).toNat then (x : Int) - y else (x : Int) - y - 1) + 1).toNat)
  by_cases h : b * 2 ^ ((x : Int) - y).toNat ≤ a * 2 ^ (-((x : Int) - y)).toNat
  · rw [if_pos h]
    refine ⟨h, ?_⟩
    by_cases hk : y ≤ x + 1
    · rw [show (-((x : Int) - y + 1)).toNat = 0 by omega, show ((x : Int) - y + 1).toNat = x + 1 - y by omega, Nat.pow_zero, Nat.mul_one]
      calc a < 2 ^ (x + 1) := a2
        _ = 2 ^ y * 2 ^ (x + 1 - y) := by rw [← Nat.pow_add]; congr 1; omega
        _ ≤ b * 2 ^ (x + 1 - y) := Nat.mul_le_mul_right _ b1
    · rw [show (-((x : Int) - y + 1)).toNat = y - x - 1 by omega, show ((x : Int) - y + 1).toNat = 0 by omega, Nat.pow_zero, Nat.mul_one]
      calc a * 2 ^ (y - x - 1) < 2 ^ (x + 1) * 2 ^ (y - x - 1) := (Nat.mul_lt_mul_right (Nat.pow_pos (by decide))).mpr a2
        _ = 2 ^ y := by rw [← Nat.pow_add]; congr 1; omega
        _ ≤ b := b1
  · rw [if_neg h]
    refine ⟨?_, by rw [Int.sub_add_cancel]; exact Nat.lt_of_not_le h⟩
    by_cases hk : y + 1 ≤ x
    · rw [show (-((x : Int) - y - 1)).toNat = 0 by omega, show ((x : Int) - y - 1).toNat = x - y - 1 by omega, Nat.pow_zero, Nat.mul_one]
      calc b * 2 ^ (x - y - 1) ≤ 2 ^ (y + 1) * 2 ^ (x - y - 1) := Nat.mul_le_mul_right _ (Nat.le_of_lt b2)
        _ = 2 ^ x := by rw [← Nat.pow_add]; congr 1; omega
        _ ≤ a := a1
    · rw [show (-((x : Int) - y - 1)).toNat = y + 1 - x by omega, show ((x : Int) - y - 1).toNat = 0 by omega, Nat.pow_zero, Nat.mul_one]
      calc b ≤ 2 ^ (y + 1) := Nat.le_of_lt b2
        _ = 2 ^ x * 2 ^ (y + 1 - x) := by rw [← Nat.pow_add]; congr 1; omega
        _ ≤ a * 2 ^ (y + 1 - x) := Nat.mul_le_mul_right _ a1
theorem ld_rng (a b : Nat) : (a.log2 : Int) - b.log2 - 1 ≤ FP.Core.leading a b ∧ FP.Core.leading a b ≤ (a.log2 : Int) - b.log2 := by
  unfold FP.Core.leading
  generalize (a.log2 : Int) = x
  generalize (b.log2 : Int) = y
  show x - y - 1 ≤ (if b * 2 ^ (x - y).toNat ≤ a * 2 ^ (-(x - y)).toNat then x - y else x - y - 1) ∧ (if b * 2 ^ (x - y).toNat ≤ a * 2 ^ (-(x - y)).toNat then x - y else x - y - 1) ≤ x - y
  split <;> omega
/-- the digits that rounding keeps -/
theorem un_rng {a b t : Nat} {e : Int} (ha : 0 < a) (hb : 0 < b) : 2 ^ t * FP.Core.unitsDen b e (FP.Core.leading a b + e - t) ≤ FP.Core.unitsNum a e (FP.Core.leading a b + e - t) ∧ FP.Core.unitsNum a e (FP.Core.leading a b + e - t) < 2 ^ (t + 1) * FP.Core.unitsDen b e (FP.Core.leading a b + e - t) ∧ 0 < FP.Core.unitsDen b e (FP.Core.leading a b + e - t) := by
  obtain ⟨h1, h2⟩ := ld_spec ha hb
  generalize FP.Core.leading a b = k at *
  unfold FP.Core.unitsNum FP.Core.unitsDen
  rw [show e - (k + e - t) = t - k by omega, show k + e - t - e = k - t by omega]
  refine ⟨?_, ?_, Nat.mul_pos hb (Nat.pow_pos (by decide))⟩
  · by_cases c1 : (t : Int) ≤ k
    · rw [show ((t : Int) - k).toNat = 0 by omega, show (k - (t : Int)).toNat = k.toNat - t by omega, Nat.pow_zero, Nat.mul_one]
      rw [show (-k).toNat = 0 by omega, Nat.pow_zero, Nat.mul_one] at h1
      calc 2 ^ t * (b * 2 ^ (k.toNat - t)) = b * (2 ^ t * 2 ^ (k.toNat - t)) := by rw [Nat.mul_left_comm]
        _ = b * 2 ^ k.toNat := by rw [← Nat.pow_add]; congr 2; omega
        _ ≤ a := h1
    · rw [show (k - (t : Int)).toNat = 0 by omega, Nat.pow_zero, Nat.mul_one]
      by_cases c2 : 0 ≤ k
      · rw [show (-k).toNat = 0 by omega, Nat.pow_zero, Nat.mul_one] at h1
        rw [show ((t : Int) - k).toNat = t - k.toNat by omega]
        calc 2 ^ t * b = b * 2 ^ k.toNat * 2 ^ (t - k.toNat) := by rw [Nat.mul_assoc, ← Nat.pow_add, Nat.mul_comm]; congr 2; omega
          _ ≤ a * 2 ^ (t - k.toNat) := Nat.mul_le_mul_right _ h1
      · rw [show k.toNat = 0 by omega, Nat.pow_zero, Nat.mul_one] at h1
        rw [show ((t : Int) - k).toNat = (-k).toNat + t by omega, Nat.pow_add, ← Nat.mul_assoc, Nat.mul_comm (2 ^ t) b]
        exact Nat.mul_le_mul_right _ h1
  · by_cases c1 : (t : Int) ≤ k
    · rw [show ((t : Int) - k).toNat = 0 by omega, show (k - (t : Int)).toNat = k.toNat - t by omega, Nat.pow_zero, Nat.mul_one]
      rw [show (-(k + 1)).toNat = 0 by omega, Nat.pow_zero, Nat.mul_one] at h2
      calc a < b * 2 ^ (k + 1).toNat := h2
        _ = 2 ^ (t + 1) * (b * 2 ^ (k.toNat - t)) := by rw [Nat.mul_left_comm, ← Nat.pow_add]; congr 2; omega
    · rw [show (k - (t : Int)).toNat = 0 by omega, Nat.pow_zero, Nat.mul_one]
      by_cases c2 : 0 ≤ k
      · rw [show (-(k + 1)).toNat = 0 by omega, Nat.pow_zero, Nat.mul_one] at h2
        rw [show ((t : Int) - k).toNat = t - k.toNat by omega]
        calc a * 2 ^ (t - k.toNat) < b * 2 ^ (k + 1).toNat * 2 ^ (t - k.toNat) := (Nat.mul_lt_mul_right (Nat.pow_pos (by decide))).mpr h2
          _ = 2 ^ (t + 1) * b := by rw [Nat.mul_assoc, ← Nat.pow_add, Nat.mul_comm]; congr 2; omega
      · rw [show (k + 1).toNat = 0 by omega, Nat.pow_zero, Nat.mul_one] at h2
        rw [show ((t : Int) - k).toNat = (-(k + 1)).toNat + (t + 1) by omega, Nat.pow_add, ← Nat.mul_assoc, Nat.mul_comm (2 ^ (t + 1)) b]
        exact (Nat.mul_lt_mul_right (Nat.pow_pos (by decide))).mpr h2
theorem nearest_rng (U V : Nat) : U / V ≤ FP.Core.nearest U V ∧ FP.Core.nearest U V ≤ U / V + 1 := by
  unfold FP.Core.nearest
  have : U / V % 2 < 2 := Nat.mod_lt _ (by decide)
  split
  · omega
  · split <;> omega
/-- a number that is written with all its digits, or zero -/
def nz (f : FP.Core.Fmt) (lo hi : Int) (s : Bool) (d : FP.Core.Datum) : Prop := ∃ c q, d = .fin s c q ∧ 2 ^ (f.p - 1) ≤ c ∧ c < 2 ^ f.p ∧ lo ≤ q ∧ q ≤ hi
theorem rr_norm {f : FP.Core.Fmt} {s : Bool} {a b : Nat} {e lo hi : Int} (hp : 1 ≤ f.p) (ha : 0 < a) (hb : 0 < b) (h1 : f.qmin ≤ lo) (h2 : hi ≤ f.qmax) (h3 : lo ≤ FP.Core.leading a b + e - ((f.p : Int) - 1)) (h4 : FP.Core.leading a b + e - ((f.p : Int) - 1) + 1 ≤ hi) : nz f lo hi s (FP.Core.roundRatio f s a b e) := by
  have hq : FP.Core.quantum f a b e = FP.Core.leading a b + e - ((f.p - 1 : Nat) : Int) := by
    unfold FP.Core.quantum
    omega
  obtain ⟨u1, u2, u3⟩ := un_rng (t := f.p - 1) (e := e) ha hb
  unfold FP.Core.roundRatio FP.Core.roundAt
  rw [if_neg (by omega), hq]
  generalize FP.Core.unitsNum a e (FP.Core.leading a b + e - ((f.p - 1 : Nat) : Int)) = U at *
  generalize FP.Core.unitsDen b e (FP.Core.leading a b + e - ((f.p - 1 : Nat) : Int)) = V at *
  obtain ⟨n1, n2⟩ := nearest_rng U V
  have d1 : 2 ^ (f.p - 1) ≤ U / V := (Nat.le_div_iff_mul_le u3).mpr u1
  have d2 : U / V < 2 ^ (f.p - 1 + 1) := (Nat.div_lt_iff_lt_mul u3).mpr u2
  rw [show f.p - 1 + 1 = f.p by omega] at d2
  unfold FP.Core.settle FP.Core.bound
  by_cases hc : FP.Core.nearest U V < 2 ^ f.p
  · rw [if_pos hc, if_pos (by omega)]
    exact ⟨_, _, rfl, by omega, hc, by omega, by omega⟩
  · rw [if_neg hc, if_pos (by omega)]
    refine ⟨_, _, rfl, Nat.le_refl _, ?_, by omega, by omega⟩
    show 2 ^ (f.p - 1) < 2 ^ f.p
    exact Nat.pow_lt_pow_right (by decide) (by omega)
theorem nearest_exact {c V : Nat} (h : 0 < V) : FP.Core.nearest (c * V) V = c := by
  unfold FP.Core.nearest
  rw [Nat.mul_mod_left, if_pos (by omega), Nat.mul_div_cancel _ h]
/-- a number that has few enough digits -/
theorem rr_exact {f : FP.Core.Fmt} {s : Bool} {a b c : Nat} {e q : Int} (ha : 0 < a) (hq : FP.Core.quantum f a b e = q) (hV : 0 < FP.Core.unitsDen b e q) (hU : FP.Core.unitsNum a e q = c * FP.Core.unitsDen b e q) (hc : c < 2 ^ f.p) (hm : q ≤ f.qmax) : FP.Core.roundRatio f s a b e = .fin s c q := by
  unfold FP.Core.roundRatio FP.Core.roundAt
  rw [if_neg (by omega), hq, hU, nearest_exact hV]
  unfold FP.Core.settle FP.Core.bound
  rw [if_pos hc, if_pos hm]
