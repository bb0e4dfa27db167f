-- ===== the class's bits of a double, of a float =====
theorem lN_sb : ∀ k : Nat, k < 64 → (lN k).toBitVec.smod 64 = BitVec.ofNat 64 k := by decide +kernel
theorem lN_shl (a : Nat) {k : Nat} (hk : k < 64) : lN a <<< lN k = lN (a * 2 ^ k) := by
  apply Int64.toBitVec_inj.mp
  rw [Int64.toBitVec_shiftLeft, lN_sb k hk]
  show BitVec.ofNat 64 a <<< BitVec.ofNat 64 k = BitVec.ofNat 64 (a * 2 ^ k)
  apply BitVec.eq_of_toNat_eq
  rw [BitVec.shiftLeft_eq', BitVec.toNat_shiftLeft, BitVec.toNat_ofNat, BitVec.toNat_ofNat, BitVec.toNat_ofNat, Nat.mod_eq_of_lt (show k < 2 ^ 64 by omega), Nat.shiftLeft_eq, Nat.mod_mul_mod]
theorem lN_shr {a k : Nat} (ha : a < 2 ^ 63) (hk : k < 64) : lN a >>> lN k = lN (a / 2 ^ k) := by
  apply Int64.toBitVec_inj.mp
  rw [Int64.toBitVec_shiftRight, lN_sb k hk]
  show (BitVec.ofNat 64 a).sshiftRight' (BitVec.ofNat 64 k) = BitVec.ofNat 64 (a / 2 ^ k)
  have h2 : (BitVec.ofNat 64 k).toNat = k := by rw [BitVec.toNat_ofNat, Nat.mod_eq_of_lt (by omega)]
  rw [BitVec.sshiftRight_eq', h2]
  have hm : (BitVec.ofNat 64 a).msb = false := by
    rw [BitVec.msb_eq_false_iff_two_mul_lt, BitVec.toNat_ofNat, Nat.mod_eq_of_lt (by omega)]
    omega
  apply BitVec.eq_of_toNat_eq
  rw [BitVec.toNat_sshiftRight_of_msb_false hm, BitVec.toNat_ofNat, BitVec.toNat_ofNat, Nat.mod_eq_of_lt (show a < 2 ^ 64 by omega), Nat.shiftRight_eq_div_pow]
  have : a / 2 ^ k ≤ a := Nat.div_le_self _ _
  rw [Nat.mod_eq_of_lt (by omega)]
theorem dd_64 {x y : FP.Core.Datum} (hx : FP.Core.decode FP.Core.b64 (B64 x).toNat = x) (hy : FP.Core.decode FP.Core.b64 (B64 y).toNat = y) : FP.ddiv (B64 x) (B64 y) = B64 (FP.Core.quotient FP.Core.b64 x y) := by
  show UInt64.ofNat (FP.Core.encode FP.Core.b64 (FP.Core.quotient FP.Core.b64 (FP.Core.decode FP.Core.b64 (B64 x).toNat) (FP.Core.decode FP.Core.b64 (B64 y).toNat))) = _
  rw [hx, hy]
  rfl
theorem dm_64 {x y : FP.Core.Datum} (hx : FP.Core.decode FP.Core.b64 (B64 x).toNat = x) (hy : FP.Core.decode FP.Core.b64 (B64 y).toNat = y) : FP.dmul (B64 x) (B64 y) = B64 (FP.Core.round FP.Core.b64 (FP.Core.exactProduct x y)) := by
  show UInt64.ofNat (FP.Core.encode FP.Core.b64 (FP.Core.round FP.Core.b64 (FP.Core.exactProduct (FP.Core.decode FP.Core.b64 (B64 x).toNat) (FP.Core.decode FP.Core.b64 (B64 y).toNat)))) = _
  rw [hx, hy]
  rfl
theorem da_64 {x y : FP.Core.Datum} (hx : FP.Core.decode FP.Core.b64 (B64 x).toNat = x) (hy : FP.Core.decode FP.Core.b64 (B64 y).toNat = y) : FP.dadd (B64 x) (B64 y) = B64 (FP.Core.round FP.Core.b64 (FP.Core.exactSum x y)) := by
  show UInt64.ofNat (FP.Core.encode FP.Core.b64 (FP.Core.round FP.Core.b64 (FP.Core.exactSum (FP.Core.decode FP.Core.b64 (B64 x).toNat) (FP.Core.decode FP.Core.b64 (B64 y).toNat)))) = _
  rw [hx, hy]
  rfl
theorem ds_64 {x y : FP.Core.Datum} (hx : FP.Core.decode FP.Core.b64 (B64 x).toNat = x) (hy : FP.Core.decode FP.Core.b64 (B64 y).toNat = y) : FP.dsub (B64 x) (B64 y) = B64 (FP.Core.round FP.Core.b64 (FP.Core.exactSum x (FP.Core.negate y))) := by
  show UInt64.ofNat (FP.Core.encode FP.Core.b64 (FP.Core.round FP.Core.b64 (FP.Core.exactSum (FP.Core.decode FP.Core.b64 (B64 x).toNat) (FP.Core.negate (FP.Core.decode FP.Core.b64 (B64 y).toNat))))) = _
  rw [hx, hy]
  rfl
theorem dc_64 {x y : FP.Core.Datum} (hx : FP.Core.decode FP.Core.b64 (B64 x).toNat = x) (hy : FP.Core.decode FP.Core.b64 (B64 y).toNat = y) : FP.dcmp (B64 x) (B64 y) = FP.Core.order x y := by
  show FP.Core.order (FP.Core.decode FP.Core.b64 (B64 x).toNat) (FP.Core.decode FP.Core.b64 (B64 y).toNat) = _
  rw [hx, hy]
theorem fd_32 {x y : FP.Core.Datum} (hx : FP.Core.decode FP.Core.b32 (B32 x).toNat = x) (hy : FP.Core.decode FP.Core.b32 (B32 y).toNat = y) : FP.fdiv (B32 x) (B32 y) = B32 (FP.Core.quotient FP.Core.b32 x y) := by
  show UInt32.ofNat (FP.Core.encode FP.Core.b32 (FP.Core.quotient FP.Core.b32 (FP.Core.decode FP.Core.b32 (B32 x).toNat) (FP.Core.decode FP.Core.b32 (B32 y).toNat))) = _
  rw [hx, hy]
  rfl
theorem fa_32 {x y : FP.Core.Datum} (hx : FP.Core.decode FP.Core.b32 (B32 x).toNat = x) (hy : FP.Core.decode FP.Core.b32 (B32 y).toNat = y) : FP.fadd (B32 x) (B32 y) = B32 (FP.Core.round FP.Core.b32 (FP.Core.exactSum x y)) := by
  show UInt32.ofNat (FP.Core.encode FP.Core.b32 (FP.Core.round FP.Core.b32 (FP.Core.exactSum (FP.Core.decode FP.Core.b32 (B32 x).toNat) (FP.Core.decode FP.Core.b32 (B32 y).toNat)))) = _
  rw [hx, hy]
  rfl
theorem fc_32 {x y : FP.Core.Datum} (hx : FP.Core.decode FP.Core.b32 (B32 x).toNat = x) (hy : FP.Core.decode FP.Core.b32 (B32 y).toNat = y) : FP.fcmp (B32 x) (B32 y) = FP.Core.order x y := by
  show FP.Core.order (FP.Core.decode FP.Core.b32 (B32 x).toNat) (FP.Core.decode FP.Core.b32 (B32 y).toNat) = _
  rw [hx, hy]
-- the order
theorem cmp_lt {a b : Int} (h : a < b) : compare a b = Ordering.lt := by
  show compareOfLessAndEq a b = _
  unfold compareOfLessAndEq
  rw [if_pos h]
theorem cmp_eq {a : Int} : compare a a = Ordering.eq := by
  show compareOfLessAndEq a a = _
  unfold compareOfLessAndEq
  rw [if_neg (by omega), if_pos rfl]
theorem cmp_gt {a b : Int} (h : b < a) : compare a b = Ordering.gt := by
  show compareOfLessAndEq a b = _
  unfold compareOfLessAndEq
  rw [if_neg (by omega), if_neg (by omega)]
theorem or_self (s : Bool) (c : Nat) (q : Int) : FP.Core.order (.fin s c q) (.fin s c q) = some .eq := by
  show some (compare _ _) = _
  rw [cmp_eq]
theorem or_pos {c : Nat} {q r : Int} (hc : 0 < c) : FP.Core.order (.fin false c q) (.fin false 0 r) = some .gt := by
  show some (compare ((c * 2 ^ (q - min q r).toNat : Nat) : Int) ((0 * 2 ^ (r - min q r).toNat : Nat) : Int)) = _
  rw [Nat.zero_mul, cmp_gt]
  have := Nat.mul_pos hc (Nat.pow_pos (n := (q - min q r).toNat) (show 0 < 2 by decide))
  omega
theorem or_lt {c : Nat} {q r : Int} (hc : c < 9007199254740992) (h : q < r) : FP.Core.order (.fin false c q) (.fin false 4503599627370496 r) = some .lt := by
  show some (compare ((c * 2 ^ (q - min q r).toNat : Nat) : Int) ((4503599627370496 * 2 ^ (r - min q r).toNat : Nat) : Int)) = _
  rw [show (q - min q r).toNat = 0 by omega, show (r - min q r).toNat = (r - q - 1).toNat + 1 by omega, Nat.pow_succ, Nat.pow_zero, cmp_lt]
  have := Nat.pow_pos (n := (r - q - 1).toNat) (show 0 < 2 by decide)
  omega
theorem or_ge {c : Nat} {q r : Int} (hc : 4503599627370496 ≤ c) (h : r ≤ q) : FP.Core.order (.fin false c q) (.fin false 4503599627370496 r) = some .eq ∨ FP.Core.order (.fin false c q) (.fin false 4503599627370496 r) = some .gt := by
  show some (compare ((c * 2 ^ (q - min q r).toNat : Nat) : Int) ((4503599627370496 * 2 ^ (r - min q r).toNat : Nat) : Int)) = _ ∨ some (compare ((c * 2 ^ (q - min q r).toNat : Nat) : Int) ((4503599627370496 * 2 ^ (r - min q r).toNat : Nat) : Int)) = _
  rw [show (r - min q r).toNat = 0 by omega, Nat.pow_zero, Nat.mul_one]
  have h1 := Nat.mul_le_mul hc (Nat.pow_pos (n := (q - min q r).toNat) (show 0 < 2 by decide))
  by_cases e : 4503599627370496 = c * 2 ^ (q - min q r).toNat
  · left; rw [← e, cmp_eq]
  · right; rw [cmp_gt (by omega)]
-- halves and doubles
theorem ld_0 {c d : Nat} {t : Nat} (h1 : 2 ^ t * d ≤ c) (h2 : c < 2 ^ (t + 1) * d) (hd : 0 < d) : FP.Core.leading c d = t := by
  have hc : 0 < c := Nat.lt_of_lt_of_le (Nat.mul_pos (Nat.pow_pos (by decide)) hd) h1
  obtain ⟨s1, s2⟩ := ld_spec hc hd
  generalize FP.Core.leading c d = k at *
  by_cases g1 : (t : Int) < k
  · rw [show (-k).toNat = 0 by omega, Nat.pow_zero, Nat.mul_one] at s1
    have : 2 ^ (t + 1) ≤ 2 ^ k.toNat := pw_up (by omega)
    have := Nat.mul_le_mul_left d this
    rw [Nat.mul_comm (2 ^ (t + 1)) d] at h2
    omega
  · by_cases g2 : k < t
    · by_cases g3 : 0 ≤ k + 1
      · rw [show (-(k + 1)).toNat = 0 by omega, Nat.pow_zero, Nat.mul_one] at s2
        have : 2 ^ (k + 1).toNat ≤ 2 ^ t := pw_up (by omega)
        have := Nat.mul_le_mul_left d this
        rw [Nat.mul_comm (2 ^ t) d] at h1
        omega
      · rw [show (k + 1).toNat = 0 by omega, Nat.pow_zero, Nat.mul_one] at s2
        have a1 : 1 ≤ 2 ^ (-(k + 1)).toNat := Nat.pow_pos (by decide)
        have a2 := Nat.mul_le_mul_left c a1
        have a3 : 1 ≤ 2 ^ t := Nat.pow_pos (by decide)
        have a4 := Nat.mul_le_mul_right d a3
        omega
    · omega
theorem hv_64 {c : Nat} {q : Int} (h1 : 4503599627370496 ≤ c) (h2 : c < 9007199254740992) (h3 : -1073 ≤ q) (h4 : q ≤ 971) : FP.Core.quotient FP.Core.b64 (.fin false c q) (.fin false 4503599627370496 (-51)) = .fin false c (q - 1) := by
  show (if 4503599627370496 = 0 then (if c = 0 then .nan else .inf (false != false)) else FP.Core.roundRatio FP.Core.b64 (false != false) c 4503599627370496 (q - (-51))) = _
  rw [if_neg (by decide), show (false != false) = false from rfl]
  have hl : FP.Core.leading c 4503599627370496 = ((0 : Nat) : Int) := ld_0 (by omega) (by omega) (by decide)
  refine rr_exact (c := c) (q := q - 1) (by omega) ?_ ?_ ?_ h2 (show q - 1 ≤ 971 by omega)
  · show max (-1074 : Int) (FP.Core.leading c 4503599627370496 + (q - -51) - ((53 : Nat) - 1)) = q - 1
    rw [hl]
    omega
  · show 0 < 4503599627370496 * 2 ^ (q - 1 - (q - -51)).toNat
    exact Nat.mul_pos (by decide) (Nat.pow_pos (by decide))
  · show c * 2 ^ (q - -51 - (q - 1)).toNat = c * (4503599627370496 * 2 ^ (q - 1 - (q - -51)).toNat)
    rw [show (q - -51 - (q - 1)).toNat = 52 by omega, show (q - 1 - (q - -51)).toNat = 0 by omega]
theorem db_64 {c : Nat} {q r : Int} (h1 : 4503599627370496 ≤ c) (h2 : c < 9007199254740992) (h3 : -1074 ≤ q + r + 52) (h4 : q + r + 52 ≤ 971) : FP.Core.round FP.Core.b64 (FP.Core.exactProduct (.fin false c q) (.fin false 4503599627370496 r)) = .fin false c (q + r + 52) := by
  show FP.Core.roundRatio FP.Core.b64 (false != false) (c * 4503599627370496) 1 (q + r) = _
  rw [show (false != false) = false from rfl]
  have hl : FP.Core.leading (c * 4503599627370496) 1 = ((104 : Nat) : Int) := ld_0 (by omega) (by omega) (by decide)
  refine rr_exact (c := c) (q := q + r + 52) (by omega) ?_ ?_ ?_ h2 (show q + r + 52 ≤ 971 by omega)
  · show max (-1074 : Int) (FP.Core.leading (c * 4503599627370496) 1 + (q + r) - ((53 : Nat) - 1)) = q + r + 52
    rw [hl]
    omega
  · show 0 < 1 * 2 ^ (q + r + 52 - (q + r)).toNat
    exact Nat.mul_pos (by decide) (Nat.pow_pos (by decide))
  · show c * 4503599627370496 * 2 ^ (q + r - (q + r + 52)).toNat = c * (1 * 2 ^ (q + r + 52 - (q + r)).toNat)
    rw [show (q + r - (q + r + 52)).toNat = 0 by omega, show (q + r + 52 - (q + r)).toNat = 52 by omega]
    omega
theorem nz_of {s : Bool} {c : Nat} {q lo hi : Int} (h1 : 4503599627370496 ≤ c) (h2 : c < 9007199254740992) (h3 : lo ≤ q) (h4 : q ≤ hi) : oz FP.Core.b64 lo hi s (.fin s c q) := Or.inr ⟨c, q, rfl, h1, h2, h3, h4⟩
theorem two_64 : (4611686018427387904 : UInt64) = B64 (.fin false 4503599627370496 (-51)) := by decide +kernel
theorem one_64 : FP.dconst1 = B64 (.fin false 4503599627370496 (-52)) := by decide +kernel
theorem zer_64 : FP.dconst0 = B64 (.fin false 0 (-1074)) := by decide +kernel
theorem big_64 : FP.l2d 4503599627370496 = B64 (.fin false 4503599627370496 0) := by decide +kernel
theorem k_64 {c : Nat} {q : Int} (h1 : 4503599627370496 ≤ c) (h2 : c < 9007199254740992) (h3 : -1074 ≤ q) (h4 : q ≤ 971) (s : Bool) : FP.Core.decode FP.Core.b64 (B64 (.fin s c q)).toNat = .fin s c q ∧ q_n64 (B64 (.fin s c q)) = some (B64 (.fin s c q)) := oz_64 (nz_of h1 h2 h3 h4) (by omega) (by omega)
theorem kz_64 (s : Bool) : FP.Core.decode FP.Core.b64 (B64 (.fin s 0 (-1074))).toNat = .fin s 0 (-1074) ∧ q_n64 (B64 (.fin s 0 (-1074))) = some (B64 (.fin s 0 (-1074))) := oz_64 (lo := 0) (hi := 0) (Or.inl rfl) (by decide) (by decide)
theorem L18_64 {c : Nat} (h1 : 4503599627370496 ≤ c) (h2 : c < 9007199254740992) (K : UInt64 → Int64 → Int32 → Option (Int64)) : ∀ d i fu l, i + d < 1000 → d < fu → ∃ j, f_X0_ofDouble_L18 K fu (B64 (.fin false c ((d : Int) - 52))) (lN l) (nI i) = K (B64 (.fin false c (-52))) (lN (l + d)) (nI j)
  | d, i, 0, _, _, h => by omega
  | 0, i, fu + 1, l, hi, _ => by
    refine ⟨i, ?_⟩
    rw [f_X0_ofDouble_L18, if_neg (show ¬ (1024 : Int32) ≤ nI i from nI_ge (a := i) (b := 1024) (by omega) (by omega)), two_64, dc_64 (k_64 h1 h2 (by omega) (by omega) false).1 (k_64 (by omega) (by omega) (by omega) (by omega) false).1, or_lt h2 (by omega), if_pos (show Op.cmpValue (some .lt) .l < 0 from by decide)]
    rfl
  | d + 1, i, fu + 1, l, hi, hfu => by
    obtain ⟨j, e⟩ := L18_64 h1 h2 K d (i + 1) fu (l + 1) (by omega) (by omega)
    refine ⟨j, ?_⟩
    have hge : ¬ Op.cmpValue (FP.Core.order (.fin false c (((d + 1 : Nat) : Int) - 52)) (.fin false 4503599627370496 (-51))) .l < 0 := by
      rcases or_ge (q := ((d + 1 : Nat) : Int) - 52) (r := -51) h1 (by omega) with h | h
      · rw [h]; decide
      · rw [h]; decide
    have ek : FP.ddiv (B64 (.fin false c (((d + 1 : Nat) : Int) - 52))) (B64 (.fin false 4503599627370496 (-51))) = B64 (.fin false c ((d : Int) - 52)) := by
      rw [dd_64 (k_64 h1 h2 (by omega) (by omega) false).1 (k_64 (by omega) (by omega) (by omega) (by omega) false).1, hv_64 h1 h2 (by omega) (by omega), show ((d + 1 : Nat) : Int) - 52 - 1 = (d : Int) - 52 by omega]
    rw [f_X0_ofDouble_L18, if_neg (show ¬ (1024 : Int32) ≤ nI i from nI_ge (a := i) (b := 1024) (by omega) (by omega)), two_64, dc_64 (k_64 h1 h2 (by omega) (by omega) false).1 (k_64 (by omega) (by omega) (by omega) (by omega) false).1, if_neg hge, ek, (k_64 h1 h2 (by omega) (by omega) false).2, ob_some, nI_1, show lN l + 1 = lN (l + 1) from lN_add l 1, e, show l + 1 + d = l + (d + 1) by omega]
theorem L55_64 {c : Nat} (h1 : 4503599627370496 ≤ c) (h2 : c < 9007199254740992) (K : UInt64 → Int64 → Int32 → Option (Int64)) : ∀ d i fu l, i + d < 1000 → d < fu → ∃ j, f_X0_ofDouble_L55 K fu (B64 (.fin false c (-52 - (d : Int)))) (lN (l + d)) (nI i) = K (B64 (.fin false c (-52))) (lN l) (nI j)
  | d, i, 0, _, _, h => by omega
  | 0, i, fu + 1, l, hi, _ => by
    refine ⟨i, ?_⟩
    have hge : 0 ≤ Op.cmpValue (FP.Core.order (.fin false c (-52 - ((0 : Nat) : Int))) (.fin false 4503599627370496 (-52))) .g := by
      rcases or_ge (q := -52 - ((0 : Nat) : Int)) (r := -52) h1 (by omega) with h | h
      · rw [h]; decide
      · rw [h]; decide
    rw [f_X0_ofDouble_L55, if_neg (show ¬ (1023 : Int32) ≤ nI i from nI_ge (a := i) (b := 1023) (by omega) (by omega)), one_64, dc_64 (k_64 h1 h2 (by omega) (by omega) false).1 (k_64 (by omega) (by omega) (by omega) (by omega) false).1, if_pos hge]
    rfl
  | d + 1, i, fu + 1, l, hi, hfu => by
    obtain ⟨j, e⟩ := L55_64 h1 h2 K d (i + 1) fu l (by omega) (by omega)
    refine ⟨j, ?_⟩
    have ek : FP.dmul (B64 (.fin false c (-52 - ((d + 1 : Nat) : Int)))) (B64 (.fin false 4503599627370496 (-51))) = B64 (.fin false c (-52 - (d : Int))) := by
      rw [dm_64 (k_64 h1 h2 (by omega) (by omega) false).1 (k_64 (by omega) (by omega) (by omega) (by omega) false).1, db_64 h1 h2 (by omega) (by omega), show -52 - ((d + 1 : Nat) : Int) + -51 + 52 = -52 - (d : Int) by omega]
    rw [f_X0_ofDouble_L55, if_neg (show ¬ (1023 : Int32) ≤ nI i from nI_ge (a := i) (b := 1023) (by omega) (by omega)), one_64, dc_64 (k_64 h1 h2 (by omega) (by omega) false).1 (k_64 (by omega) (by omega) (by omega) (by omega) false).1, or_lt h2 (by omega), if_neg (show ¬ (0 : Int32) ≤ Op.cmpValue (some .lt) .g from by decide), two_64, ek, (k_64 h1 h2 (by omega) (by omega) false).2, ob_some, nI_1, show lN (l + (d + 1)) - 1 = lN (l + d) from lN_sub (a := l + (d + 1)) (b := 1) (by omega), e]

theorem fin_64 {c : Nat} (h1 : 4503599627370496 ≤ c) (h2 : c < 9007199254740992) : q_n64 (FP.dmul (B64 (.fin false c (-52))) (FP.l2d 4503599627370496)) = some (B64 (.fin false c 0)) ∧ FP.d2l (B64 (.fin false c 0)) = lN c := by
  constructor
  · rw [big_64, dm_64 (k_64 h1 h2 (by omega) (by omega) false).1 (k_64 (by omega) (by omega) (by omega) (by omega) false).1, db_64 h1 h2 (by omega) (by omega)]
    exact (k_64 h1 h2 (by omega) (by omega) false).2
  · show FP.Core.toL (FP.Core.decode FP.Core.b64 (B64 (.fin false c 0)).toNat) = _
    rw [(k_64 h1 h2 (by omega) (by omega) false).1]
    show Int64.ofInt (max (-2 ^ 63) (min (2 ^ 63 - 1) (((c * 2 ^ 0 / 2 ^ 0 : Nat)) : Int))) = _
    rw [Nat.pow_zero, Nat.mul_one, Nat.div_one, show max (-2 ^ 63) (min (2 ^ 63 - 1) ((c : Nat) : Int)) = (c : Int) by omega]
    apply Int64.toInt_inj.mp
    rw [Int64.toInt_ofInt, show (lN c).toInt = (c : Int) from lg_ofNat_toInt (by omega)]
    exact fb_bmodL (by omega) (by omega)
/-- the class tells a double's bits -/
theorem od_nz {c : Nat} {q : Int} (h1 : 4503599627370496 ≤ c) (h2 : c < 9007199254740992) (h3 : -900 ≤ q) (h4 : q ≤ 900) : f_X0_ofDouble (B64 (.fin false c q)) = some (B64 (.fin false c q)).toInt64 := by
  have K0 := (k_64 h1 h2 (show -1074 ≤ q by omega) (show q ≤ 971 by omega) false).1
  have eB : (B64 (.fin false c q)).toInt64 = lN (((q + 1074).toNat + 1) * 4503599627370496 + (c - 4503599627370496)) := by
    show lN (FP.Core.encode FP.Core.b64 (.fin false c q)) = _
    rw [en_64 h1]
    exact congrArg lN (show (0 * 2048 + ((q + 1074).toNat + 1)) * 4503599627370496 + (c - 4503599627370496) = ((q + 1074).toNat + 1) * 4503599627370496 + (c - 4503599627370496) by omega)
  obtain ⟨f1, f2⟩ := fin_64 h1 h2
  have fin : ∀ l : Nat, l = (q + 1074).toNat + 1 → ((q_n64 (FP.dmul (B64 (.fin false c (-52))) (FP.l2d 4503599627370496))).bind fun t4 => some ((lN l <<< ((52 : Int32).toInt64 &&& 63)) + ((FP.d2l t4) - 4503599627370496))) = some (B64 (.fin false c q)).toInt64 := by
    rintro l rfl
    rw [f1, ob_some, f2, eB, show (52 : Int32).toInt64 &&& 63 = lN 52 from by decide, lN_shl _ (by decide), show lN c - 4503599627370496 = lN (c - 4503599627370496) from lN_sub (by omega), lN_add]
  unfold f_X0_ofDouble
  rw [zer_64, dc_64 K0 (kz_64 false).1, or_pos (by omega), if_pos (show (0 : Int32) < Op.cmpValue (some .gt) .l from by decide)]
  by_cases hq : -52 ≤ q
  · obtain ⟨d, hd⟩ : ∃ d : Nat, (d : Int) - 52 = q := ⟨(q + 52).toNat, by omega⟩
    obtain ⟨j, e⟩ := L18_64 h1 h2 (fun l2_2 l4_2 l6_2 => f_X0_ofDouble_L55  (fun l2_3 l4_3 l6_3 => (q_n64 (FP.dmul l2_3 (FP.l2d 4503599627370496))).bind fun t4 => some ((l4_3 <<< ((52 : Int32).toInt64 &&& 63)) + ((FP.d2l t4) - 4503599627370496))) q_fu l2_2 l4_2 0) d 0 q_fu 1023 (by omega) (fu_lt (by omega))
    obtain ⟨j2, e2⟩ := L55_64 h1 h2 (fun l2_3 l4_3 l6_3 => (q_n64 (FP.dmul l2_3 (FP.l2d 4503599627370496))).bind fun t4 => some ((l4_3 <<< ((52 : Int32).toInt64 &&& 63)) + ((FP.d2l t4) - 4503599627370496))) 0 0 q_fu (1023 + d) (by omega) (fu_lt (by omega))
    rw [hd] at e
    refine Eq.trans e (Eq.trans e2 (fin _ (by omega)))
  · obtain ⟨d, hd⟩ : ∃ d : Nat, -52 - (d : Int) = q := ⟨(-52 - q).toNat, by omega⟩
    obtain ⟨j2, e2⟩ := L55_64 h1 h2 (fun l2_3 l4_3 l6_3 => (q_n64 (FP.dmul l2_3 (FP.l2d 4503599627370496))).bind fun t4 => some ((l4_3 <<< ((52 : Int32).toInt64 &&& 63)) + ((FP.d2l t4) - 4503599627370496))) d 0 q_fu (1023 - d) (by omega) (fu_lt (by omega))
    rw [hd, show 1023 - d + d = 1023 by omega] at e2
    show f_X0_ofDouble_L18 _ (5999 + 1) _ _ (nI 0) = _
    rw [f_X0_ofDouble_L18, if_neg (show ¬ (1024 : Int32) ≤ nI 0 from by decide), two_64, dc_64 K0 (k_64 (by omega) (by omega) (by omega) (by omega) false).1, or_lt h2 (by omega), if_pos (show Op.cmpValue (some .lt) .l < 0 from by decide)]
    exact Eq.trans e2 (fin _ (by omega))
theorem od_64 {lo hi : Int} {d : FP.Core.Datum} (h : oz FP.Core.b64 lo hi false d) (h1 : -900 ≤ lo) (h2 : hi ≤ 900) : f_X0_ofDouble (B64 d) = some (B64 d).toInt64 ∧ f_Jxe99ae_doubleToLongBits_ccdee (B64 d) = some (B64 d).toInt64 := by
  have K0 := (oz_64 h (by omega) (by omega)).1
  constructor
  · rcases h with rfl | ⟨c, q, rfl, c1, c2, q1, q2⟩
    · decide +kernel
    · exact od_nz c1 c2 (by omega) (by omega)
  · obtain ⟨s, c, q, rfl⟩ : ∃ s c q, d = .fin s c q := by
      rcases h with rfl | ⟨c, q, rfl, -⟩
      · exact ⟨_, _, _, rfl⟩
      · exact ⟨_, _, _, rfl⟩
    unfold f_Jxe99ae_doubleToLongBits_ccdee f_Jxe99ae_isNaN_b9ae7
    rw [dc_64 K0 K0, or_self, if_pos (show Op.cmpValue (some .eq) .l = 0 from rfl), ob_some, if_pos rfl]
theorem nz_32 {s : Bool} {c : Nat} {q lo hi : Int} (h1 : 8388608 ≤ c) (h2 : c < 16777216) (h3 : lo ≤ q) (h4 : q ≤ hi) : oz FP.Core.b32 lo hi s (.fin s c q) := Or.inr ⟨c, q, rfl, h1, h2, h3, h4⟩
theorem kz_32 (s : Bool) : FP.Core.decode FP.Core.b32 (B32 (.fin s 0 (-149))).toNat = .fin s 0 (-149) ∧ q_n32 (B32 (.fin s 0 (-149))) = some (B32 (.fin s 0 (-149))) := oz_32 (lo := 0) (hi := 0) (Or.inl rfl) (by decide) (by decide)
theorem zer_32 : FP.fconst0 = B32 (.fin false 0 (-149)) := by decide +kernel
/-- a float as a double -/
theorem wd_32 {c : Nat} {q : Int} (h1 : 8388608 ≤ c) (h2 : c < 16777216) (h3 : -149 ≤ q) (h4 : q ≤ 104) : FP.f2d (B32 (.fin false c q)) = B64 (.fin false (c * 536870912) (q - 29)) := by
  have K0 := (oz_32 (nz_32 (s := false) h1 h2 h3 h4) (by omega) (by omega)).1
  show (if decide (FP.Core.decode FP.Core.b32 (B32 (.fin false c q)).toNat = .nan) = true then FP.nanF2D (B32 (.fin false c q)) else UInt64.ofNat (FP.Core.encode FP.Core.b64 (FP.Core.round FP.Core.b64 (FP.Core.decode FP.Core.b32 (B32 (.fin false c q)).toNat)))) = _
  rw [K0, if_neg (by rw [decide_eq_true_eq]; intro h; cases h)]
  show UInt64.ofNat (FP.Core.encode FP.Core.b64 (FP.Core.roundRatio FP.Core.b64 false c 1 q)) = _
  have hl : FP.Core.leading c 1 = ((23 : Nat) : Int) := ld_0 (by omega) (by omega) (by decide)
  rw [rr_exact (f := FP.Core.b64) (c := c * 536870912) (q := q - 29) (by omega) ?_ ?_ ?_ (show c * 536870912 < 9007199254740992 by omega) (show q - 29 ≤ 971 by omega)]
  · rfl
  · show max (-1074 : Int) (FP.Core.leading c 1 + q - ((53 : Nat) - 1)) = q - 29
    rw [hl]
    omega
  · show 0 < 1 * 2 ^ (q - 29 - q).toNat
    exact Nat.mul_pos (by decide) (Nat.pow_pos (by decide))
  · show c * 2 ^ (q - (q - 29)).toNat = c * 536870912 * (1 * 2 ^ (q - 29 - q).toNat)
    rw [show (q - (q - 29)).toNat = 29 by omega, show (q - 29 - q).toNat = 0 by omega]
    omega
theorem of_nz {c : Nat} {q : Int} (h1 : 8388608 ≤ c) (h2 : c < 16777216) (h3 : -149 ≤ q) (h4 : q ≤ 104) : f_X0_ofFloat (B32 (.fin false c q)) = some (B32 (.fin false c q)).toInt32 := by
  have K0 := (oz_32 (nz_32 (s := false) h1 h2 h3 h4) (by omega) (by omega)).1
  have g1 : 4503599627370496 ≤ c * 536870912 := by omega
  have g2 : c * 536870912 < 9007199254740992 := by omega
  unfold f_X0_ofFloat
  rw [zer_32, fc_32 K0 (kz_32 false).1, or_pos (by omega), if_pos (show (0 : Int32) < Op.cmpValue (some .gt) .l from by decide), wd_32 h1 h2 h3 h4, (k_64 g1 g2 (by omega) (by omega) false).2, ob_some, od_nz g1 g2 (by omega) (by omega), ob_some]
  have eB : (B64 (.fin false (c * 536870912) (q - 29))).toInt64 = lN ((q + 1046).toNat * 4503599627370496 + (c - 8388608) * 536870912) := by
    show lN (FP.Core.encode FP.Core.b64 (.fin false (c * 536870912) (q - 29))) = _
    rw [en_64 g1]
    exact congrArg lN (show (0 * 2048 + ((q - 29 + 1074).toNat + 1)) * 4503599627370496 + (c * 536870912 - 4503599627370496) = (q + 1046).toNat * 4503599627370496 + (c - 8388608) * 536870912 by omega)
  have eC : (B32 (.fin false c q)).toInt32 = nI ((q + 150).toNat * 8388608 + (c - 8388608)) := by
    show nI (FP.Core.encode FP.Core.b32 (.fin false c q)) = _
    rw [en_32 h1]
    exact congrArg nI (show (0 * 256 + ((q + 149).toNat + 1)) * 8388608 + (c - 8388608) = (q + 150).toNat * 8388608 + (c - 8388608) by omega)
  obtain ⟨E, hE⟩ : ∃ E : Nat, (E : Int) = q + 150 := ⟨(q + 150).toNat, by omega⟩
  obtain ⟨N, hN⟩ : ∃ N : Nat, (q + 1046).toNat * 4503599627370496 + (c - 8388608) * 536870912 = N := ⟨_, rfl⟩
  have hN2 : N < 2 ^ 63 := by omega
  have e1 : N / 2 ^ 52 = E + 896 := by omega
  have e2 : N / 2 ^ 29 = (E + 896) * 8388608 + (c - 8388608) := by omega
  have eX : nI (E + 896) - 1023 + 127 = nI E := by
    rw [Int32.sub_eq_add_neg, Int32.add_assoc, show -(1023 : Int32) + 127 = -nI 896 from by decide, ← Int32.sub_eq_add_neg, nI_sub (by omega), Nat.add_sub_cancel]
  have hM : ((E + 896) * 8388608 + (c - 8388608)) % 2 ^ 23 = c - 8388608 := by omega
  have hO : E * 2 ^ 23 ||| (c - 8388608) = (q + 150).toNat * 8388608 + (c - 8388608) := by
    rw [Nat.mul_comm E (2 ^ 23), ← Nat.two_pow_add_eq_or_of_lt (show c - 8388608 < 2 ^ 23 by omega)]
    omega
  rw [eB, eC, hN, show (52 : Int32).toInt64 &&& 63 = lN 52 from by decide, show (29 : Int32).toInt64 &&& 63 = lN 29 from by decide, lN_shr hN2 (by decide), lN_shr hN2 (by decide), lN_i, lN_i, e1, e2, eX, show (23 &&& 31 : Int32) = nI 23 from by decide, nI_shl _ (by decide), show (8388607 : Int32) = nI (2 ^ 23 - 1) from by decide, nI_and, Nat.and_two_pow_sub_one_eq_mod, hM, nI_or, hO]
theorem of_32 {lo hi : Int} {d : FP.Core.Datum} (h : oz FP.Core.b32 lo hi false d) (h1 : -149 ≤ lo) (h2 : hi ≤ 104) : f_X0_ofFloat (B32 d) = some (B32 d).toInt32 ∧ f_Jxf58ca_floatToIntBits_5c35a (B32 d) = some (B32 d).toInt32 := by
  have K0 := (oz_32 h (by omega) (by omega)).1
  constructor
  · rcases h with rfl | ⟨c, q, rfl, c1, c2, q1, q2⟩
    · decide +kernel
    · exact of_nz c1 c2 (by omega) (by omega)
  · obtain ⟨s, c, q, rfl⟩ : ∃ s c q, d = .fin s c q := by
      rcases h with rfl | ⟨c, q, rfl, -⟩
      · exact ⟨_, _, _, rfl⟩
      · exact ⟨_, _, _, rfl⟩
    unfold f_Jxf58ca_floatToIntBits_5c35a f_Jxf58ca_isNaN_12338
    rw [fc_32 K0 K0, or_self, if_pos (show Op.cmpValue (some .eq) .l = 0 from rfl), ob_some, if_pos rfl]
