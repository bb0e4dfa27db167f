-- ===== small numbers as ints; steps of the pure functions on them =====
theorem li_0 : (0 : Int32) = nI 0 := rfl
theorem li_1 : (1 : Int32) = nI 1 := rfl
theorem li_2 : (2 : Int32) = nI 2 := rfl
theorem li_3 : (3 : Int32) = nI 3 := rfl
theorem li_4 : (4 : Int32) = nI 4 := rfl
theorem li_5 : (5 : Int32) = nI 5 := rfl
theorem li_6 : (6 : Int32) = nI 6 := rfl
theorem li_7 : (7 : Int32) = nI 7 := rfl
theorem li_8 : (8 : Int32) = nI 8 := rfl
theorem li_9 : (9 : Int32) = nI 9 := rfl
theorem li_10 : (10 : Int32) = nI 10 := rfl
theorem li_11 : (11 : Int32) = nI 11 := rfl
theorem li_12 : (12 : Int32) = nI 12 := rfl
theorem li_15 : (15 : Int32) = nI 15 := rfl
theorem li_33 : (33 : Int32) = nI 33 := rfl
theorem li_37 : (37 : Int32) = nI 37 := rfl
theorem li_46 : (46 : Int32) = nI 46 := rfl
theorem li_66 : (66 : Int32) = nI 66 := rfl
theorem li_82 : (82 : Int32) = nI 82 := rfl
theorem li_60 : (60 : Int32) = nI 60 := rfl
theorem li_99 : (99 : Int32) = nI 99 := rfl
theorem li_100 : (100 : Int32) = nI 100 := rfl
theorem li_120 : (120 : Int32) = nI 120 := rfl
theorem nI_mul (a b : Nat) : nI a * nI b = nI (a * b) := (Int32.ofNat_mul a b).symm
theorem nI_sub {a b : Nat} (h : b ≤ a) : nI a - nI b = nI (a - b) := by
  have e : nI a = nI (a - b) + nI b := by rw [nI_add, Nat.sub_add_cancel h]
  rw [e, Int32.add_sub_cancel]
theorem nI_m1 {a : Nat} (h : 1 ≤ a) : nI a + (-1) = nI (a - 1) := by
  have e : nI a = nI (a - 1) + 1 := by rw [nI_1, Nat.sub_add_cancel h]
  rw [e, Int32.add_assoc]
  show nI (a - 1) + 0 = _
  rw [Int32.add_zero]
theorem nI_or (a b : Nat) : nI a ||| nI b = nI (a ||| b) := fa_or a b
theorem nI_and (a b : Nat) : nI a &&& nI b = nI (a &&& b) := fa_and a b
theorem nI_xor (a b : Nat) : nI a ^^^ nI b = nI (a ^^^ b) := fb_xorI a b
theorem nI_c31 : ∀ k : Nat, k < 32 → (nI k &&& 31) = nI k := by decide +kernel
theorem nI_sc : ∀ k : Nat, k < 32 → ((nI k).toBitVec.smod 32).toNat = k := by decide +kernel
theorem nI_sb : ∀ k : Nat, k < 32 → (nI k).toBitVec.smod 32 = BitVec.ofNat 32 k := by decide +kernel
theorem nI_shl (a : Nat) {k : Nat} (hk : k < 32) : nI a <<< nI k = nI (a * 2 ^ k) := by
  apply Int32.toBitVec_inj.mp
  rw [Int32.toBitVec_shiftLeft, nI_sb k hk]
  show BitVec.ofNat 32 a <<< BitVec.ofNat 32 k = BitVec.ofNat 32 (a * 2 ^ k)
  apply BitVec.eq_of_toNat_eq
  rw [BitVec.shiftLeft_eq', BitVec.toNat_shiftLeft, BitVec.toNat_ofNat, BitVec.toNat_ofNat, BitVec.toNat_ofNat, Nat.mod_eq_of_lt (show k < 2 ^ 32 by omega), Nat.shiftLeft_eq, Nat.mod_mul_mod]
theorem nI_shr {a k : Nat} (ha : a < 2 ^ 31) (hk : k < 32) : nI a >>> nI k = nI (a / 2 ^ k) := by
  apply Int32.toBitVec_inj.mp
  rw [Int32.toBitVec_shiftRight, nI_sb k hk]
  show (BitVec.ofNat 32 a).sshiftRight' (BitVec.ofNat 32 k) = BitVec.ofNat 32 (a / 2 ^ k)
  have h2 : (BitVec.ofNat 32 k).toNat = k := by rw [BitVec.toNat_ofNat, Nat.mod_eq_of_lt (by omega)]
  rw [BitVec.sshiftRight_eq', h2]
  have hm : (BitVec.ofNat 32 a).msb = false := by
    rw [BitVec.msb_eq_false_iff_two_mul_lt, BitVec.toNat_ofNat, Nat.mod_eq_of_lt (by omega)]
    omega
  apply BitVec.eq_of_toNat_eq
  rw [BitVec.toNat_sshiftRight_of_msb_false hm, BitVec.toNat_ofNat, BitVec.toNat_ofNat, Nat.mod_eq_of_lt (show a < 2 ^ 32 by omega), Nat.shiftRight_eq_div_pow]
  have : a / 2 ^ k ≤ a := Nat.div_le_self _ _
  rw [Nat.mod_eq_of_lt (by omega)]
theorem nI_toNat {a : Nat} (h : a < 2 ^ 31) : (nI a).toNatClampNeg = a := nI_clamp h
theorem nI_div {a b : Nat} (ha : a < 2 ^ 31) (hb : b < 2 ^ 31) : nI a / nI b = nI (a / b) := by
  have hq : a / b ≤ a := Nat.div_le_self _ _
  apply Int32.toInt_inj.mp
  rw [Int32.toInt_div, nI_toInt ha, nI_toInt hb, nI_toInt (by omega)]
  show ((a / b : Nat) : Int).bmod (2 ^ 32) = _
  generalize a / b = q at hq
  exact fb_bmod (by omega) (by omega)
theorem nI_inj {a b : Nat} (ha : a < 2 ^ 31) (hb : b < 2 ^ 31) (h : nI a = nI b) : a = b := (nI_eq ha hb).mp h
-- partial steps
theorem qe_rd {α : Type} (a : Nat → α) {n i : Nat} (h : i < n) (hn : n < 2 ^ 31) : q_rd a n (nI i) = some (a i) := by
  unfold q_rd
  rw [if_neg (nI_in h hn), nI_clamp (by omega)]
theorem qe_wt (a : Nat → Int32) {n i : Nat} (x : Int32) (h : i < n) (hn : n < 2 ^ 31) : q_wt a n (nI i) x = some (upd a i x) := by
  unfold q_wt
  rw [if_neg (nI_in h hn), nI_clamp (by omega)]
theorem qe_wl (a : Nat → Int64) {n i : Nat} (x : Int64) (h : i < n) (hn : n < 2 ^ 31) : q_wl a n (nI i) x = some (vp_updL a i x) := by
  unfold q_wl
  rw [if_neg (nI_in h hn), nI_clamp (by omega)]
theorem qe_dv {a b : Nat} (ha : a < 2 ^ 31) (hb : b < 2 ^ 31) (h : 0 < b) : q_dv (nI a) (nI b) = some (nI (a / b)) := by
  unfold q_dv
  rw [if_neg (nI_ne0 h hb), nI_div ha hb]
theorem qe_rm {a b : Nat} (ha : a < 2 ^ 31) (hb : b < 2 ^ 31) (h : 0 < b) : q_rm (nI a) (nI b) = some (nI (a % b)) := by
  unfold q_rm
  rw [if_neg (nI_ne0 h hb), nI_div ha hb, nI_mul, nI_sub (Nat.div_mul_le_self a b)]
  congr 2
  have := Nat.div_add_mod a b
  rw [Nat.mul_comm] at this
  omega
theorem qe_cp {α : Type} (f g : Nat → α) {n0 n1 sp dp n : Nat} (h0 : sp + n ≤ n0) (h1 : dp + n ≤ n1) (b0 : n0 < 2 ^ 31) (b1 : n1 < 2 ^ 31) : q_cp f g n0 n1 (nI sp) (nI dp) (nI n) = some (va_cpy f g sp dp n) := by
  unfold q_cp
  rw [nI_clamp (by omega), nI_clamp (by omega), nI_clamp (by omega), if_neg]
  rintro (h | h | h | h | h)
  · exact nI_pos (by omega) h
  · exact nI_pos (by omega) h
  · exact nI_pos (by omega) h
  · omega
  · omega
theorem qe_rz0 : q_rz 0 = some 0 := rfl
theorem qe_rz1 : q_rz 1 = some 1 := rfl
theorem ob_some {α β : Type} (a : α) (f : α → Option β) : (some a).bind f = f a := rfl
