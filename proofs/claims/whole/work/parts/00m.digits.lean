-- ===== the class's rows of digits =====
theorem fu_lt {d : Nat} (h : d < 5000) : d < q_fu := by unfold q_fu; omega
theorem at_sh : ∀ p, p < 6 → ((15 - (3 * nI p)) &&& 31 : Int32) = nI (15 - 3 * p) := by decide +kernel
theorem pw8 (p : Nat) : 8 ^ (5 - p) = 2 ^ (15 - 3 * p) := by
  rw [show (8 : Nat) = 2 ^ 3 from rfl, ← Nat.pow_mul]
  congr 1
  omega
theorem e_at {x p : Nat} (hx : x < 2 ^ 31) (hp : p < 6) : f_X2_at (nI x) (nI p) = some (nI (dg x p)) := by
  unfold f_X2_at
  rw [at_sh p hp, nI_shr hx (by omega), li_7, show (7 : Nat) = 2 ^ 3 - 1 from rfl, fa_mask, dg, pw8]
theorem e_put {d p : Nat} (hp : p < 6) : f_X2_put (nI d) (nI p) = some (nI (d * 8 ^ (5 - p))) := by
  unfold f_X2_put
  rw [at_sh p hp, nI_shl _ (by omega), pw8]
theorem pak_0 (f : Nat → Nat) : nI (pak 0 f) = 0 := by rw [pak, cb, Nat.zero_mul]; rfl
theorem or_low {a b k : Nat} (h : b < 2 ^ k) : (2 ^ k * a) ||| b = 2 ^ k * a + b := (Nat.two_pow_add_eq_or_of_lt h a).symm
theorem pak_succ {f : Nat → Nat} {p : Nat} (hp : p < 6) : pak (p + 1) f = pak p f + f p * 8 ^ (5 - p) := by
  rw [pak, pak, cb, Nat.add_mul, Nat.mul_assoc, show 6 - (p + 1) = 5 - p by omega, show 6 - p = (5 - p) + 1 by omega, Nat.pow_succ, Nat.mul_comm 8]
theorem pak_or {f : Nat → Nat} {p : Nat} (hp : p < 6) (hf : f p < 8) : pak p f ||| f p * 8 ^ (5 - p) = pak (p + 1) f := by
  rw [pak_succ hp]
  have e : pak p f = 2 ^ (18 - 3 * p) * cb 8 f p := by
    rw [pak, Nat.mul_comm, show (8 : Nat) = 2 ^ 3 from rfl, ← Nat.pow_mul]
    congr 2
    omega
  rw [e]
  refine or_low ?_
  have e2 : (2 : Nat) ^ (18 - 3 * p) = 8 * 8 ^ (5 - p) := by
    rw [pw8, show (8 : Nat) = 2 ^ 3 from rfl, ← Nat.pow_add]
    congr 1
    omega
  rw [e2]
  exact Nat.mul_lt_mul_of_pos_right hf (Nat.pow_pos (by decide))
/-- a number of a row of digits, each of them more by some -/
theorem e_number_L {x n lo : Nat} (hx : x < 2 ^ 31) (hn : n ≤ 6) (K : Int32 → Int32 → Option Int32) : ∀ d i fu, i + d = n → d < fu → f_X2_number_L5 (nI x) (nI n) (nI lo) K fu (nI (cb 10 (fun p => dg x p + lo) i)) (nI i) = K (nI (cb 10 (fun p => dg x p + lo) n)) (nI n)
  | d, i, 0, _, h => by omega
  | 0, i, fu + 1, hi, _ => by
    rw [f_X2_number_L5, if_pos (nI_le (by omega) (by omega)), show i = n by omega]
  | d + 1, i, fu + 1, hi, hfu => by
    rw [f_X2_number_L5, if_neg (nI_ge (by omega) (by omega)), e_at hx (by omega), ob_some, li_10, nI_mul, nI_add, nI_add, nI_1, Nat.add_assoc]
    exact e_number_L hx hn K d (i + 1) fu (by omega) (by omega)
theorem e_number {x n lo : Nat} (hx : x < 2 ^ 31) (hn : n ≤ 6) : f_X2_number (nI x) (nI n) (nI lo) = some (nI (cb 10 (fun p => dg x p + lo) n)) := by
  unfold f_X2_number
  exact e_number_L hx hn (fun a _ => some a) n 0 q_fu (by omega) (fu_lt (by omega))
theorem e_unmoved_L {n : Nat} (hn : n ≤ 6) (K : Int32 → Int32 → Option Int32) : ∀ d i fu, i + d = n → d < fu → f_X2_unmoved_L4 (nI n) K fu (nI (pak i (fun p => p))) (nI i) = K (nI (idr n)) (nI n)
  | d, i, 0, _, h => by omega
  | 0, i, fu + 1, hi, _ => by
    rw [f_X2_unmoved_L4, if_pos (nI_le (by omega) (by omega)), show i = n by omega, idr]
  | d + 1, i, fu + 1, hi, hfu => by
    rw [f_X2_unmoved_L4, if_neg (nI_ge (by omega) (by omega)), e_put (by omega), ob_some, nI_or, pak_or (f := fun p => p) (p := i) (by omega) (show i < 8 by omega), nI_1]
    exact e_unmoved_L hn K d (i + 1) fu (by omega) (by omega)
theorem e_unmoved {n : Nat} (hn : n ≤ 6) : f_X2_unmoved (nI n) = some (nI (idr n)) := by
  unfold f_X2_unmoved
  have h := e_unmoved_L hn (fun a _ => some a) n 0 q_fu (by omega) (fu_lt (by omega))
  rw [pak_0] at h
  exact h
theorem e_moved_L {x r n : Nat} (hx : x < 2 ^ 31) (hr : r < 2 ^ 31) (hn : n ≤ 6) (hd : ∀ p, p < n → dg r p < 6) (K : Int32 → Int32 → Option Int32) : ∀ d i fu, i + d = n → d < fu → f_X2_moved_L5 (nI x) (nI r) (nI n) K fu (nI (pak i (fun p => dg x (dg r p)))) (nI i) = K (nI (ac n x r)) (nI n)
  | d, i, 0, _, h => by omega
  | 0, i, fu + 1, hi, _ => by
    rw [f_X2_moved_L5, if_pos (nI_le (by omega) (by omega)), show i = n by omega, ac]
  | d + 1, i, fu + 1, hi, hfu => by
    rw [f_X2_moved_L5, if_neg (nI_ge (by omega) (by omega)), e_at hr (by omega), ob_some, e_at hx (hd i (by omega)), ob_some, e_put (by omega), ob_some, nI_or, pak_or (f := fun p => dg x (dg r p)) (p := i) (by omega) (dg_lt _ _), nI_1]
    exact e_moved_L hx hr hn hd K d (i + 1) fu (by omega) (by omega)
theorem e_moved {x r n : Nat} (hx : x < 2 ^ 31) (hr : r < 2 ^ 31) (hn : n ≤ 6) (hd : ∀ p, p < n → dg r p < 6) : f_X2_moved (nI x) (nI r) (nI n) = some (nI (ac n x r)) := by
  unfold f_X2_moved
  have h := e_moved_L hx hr hn hd (fun a _ => some a) n 0 q_fu (by omega) (fu_lt (by omega))
  rw [pak_0] at h
  exact h
/-- a row of digits told by a number -/
def Dg (n lo m v : Nat) : Prop := v < 10 ^ n ∧ ∀ p, p < n → lo ≤ di 10 n v p ∧ di 10 n v p < lo + m
theorem m1_lt : (-1 : Int32) < 0 := by decide
theorem nI_m1' (j : Nat) : nI j + (-1) = nI j - 1 := (Int32.sub_eq_add_neg ..).symm
theorem nI_dec {j : Nat} (h : 1 ≤ j) : nI j - 1 = nI (j - 1) := nI_sub (b := 1) h
theorem nI_dneg : nI 0 - 1 < 0 := by decide
/-- n places, from the last on; j are left, left is v over 10 to the n - j -/
theorem e_packed_L {n lo m v : Nat} (hn : n ≤ 6) (hlo : lo ≤ 1) (hm : m ≤ 6) (hv : v < 2 ^ 31) (K : Int32 → Int32 → Int32 → Option Int32) : ∀ j fu M, j ≤ n → j < fu → M < 8 ^ (6 - j) →
    (∀ p, p < j → lo ≤ v / 10 ^ (n - 1 - p) % 10 ∧ v / 10 ^ (n - 1 - p) % 10 < lo + m) →
    f_X2_packed_L11 (nI lo) (nI m) K fu (nI (v / 10 ^ (n - j))) (nI M) (nI j - 1) = K (nI (v / 10 ^ n)) (nI (M + pak j (fun p => v / 10 ^ (n - 1 - p) % 10 - lo))) (-1)
  | j, 0, _, _, h, _, _ => by omega
  | 0, fu + 1, M, hj, hfu, hM, h => by
    rw [f_X2_packed_L11, if_pos nI_dneg, Nat.sub_zero, pak, cb, Nat.zero_mul, Nat.add_zero]
    rfl
  | j + 1, fu + 1, M, hj, hfu, hM, h => by
    have hq : v / 10 ^ (n - (j + 1)) ≤ v := Nat.div_le_self _ _
    have hdj := h j (by omega)
    have e1 : n - 1 - j = n - (j + 1) := by omega
    rw [e1] at hdj
    have e3 : v / 10 ^ (n - (j + 1)) / 10 = v / 10 ^ (n - j) := by
      rw [Nat.div_div_eq_div_mul, ← Nat.pow_succ]
      congr 2
      omega
    rw [f_X2_packed_L11, nI_dec (by omega), Nat.add_sub_cancel, if_neg (nI_pos (by omega)), li_10, qe_rm (by omega) (by omega) (by decide), ob_some, nI_sub hdj.1, if_neg (nI_pos (by omega)), if_pos (nI_lt (by omega) (by omega)), e_put (by omega), ob_some, qe_dv (by omega) (by omega) (by decide), ob_some, nI_or, nI_m1', e3]
    have hd8 : v / 10 ^ (n - (j + 1)) % 10 - lo < 8 := by omega
    have e4 : M ||| (v / 10 ^ (n - (j + 1)) % 10 - lo) * 8 ^ (5 - j) = M + (v / 10 ^ (n - (j + 1)) % 10 - lo) * 8 ^ (5 - j) := by
      have hM2 : M < 2 ^ (15 - 3 * j) := by rw [← pw8]; rwa [show 6 - (j + 1) = 5 - j by omega] at hM
      rw [Nat.or_comm, Nat.mul_comm, pw8, or_low hM2, Nat.add_comm]
    rw [e4]
    have hM3 : M + (v / 10 ^ (n - (j + 1)) % 10 - lo) * 8 ^ (5 - j) < 8 ^ (6 - j) := by
      rw [show 6 - (j + 1) = 5 - j by omega] at hM
      rw [show 6 - j = (5 - j) + 1 by omega, Nat.pow_succ, Nat.mul_comm (8 ^ (5 - j)) 8]
      have : (v / 10 ^ (n - (j + 1)) % 10 - lo + 1) * 8 ^ (5 - j) ≤ 8 * 8 ^ (5 - j) := Nat.mul_le_mul_right _ hd8
      rw [Nat.add_mul] at this
      omega
    rw [e_packed_L hn hlo hm hv K j fu _ (by omega) (by omega) hM3 (fun p hp => h p (by omega)), pak_succ (by omega), e1]
    congr 2
    omega
