-- ===== rows of digits as numbers =====
def cb (b : Nat) (f : Nat → Nat) : Nat → Nat
  | 0 => 0
  | n + 1 => cb b f n * b + f n
def dg (x p : Nat) : Nat := x / 8 ^ (5 - p) % 8
def pak (n : Nat) (f : Nat → Nat) : Nat := cb 8 f n * 8 ^ (6 - n)
theorem dg_lt (x p : Nat) : dg x p < 8 := Nat.mod_lt _ (by decide)
theorem cb_cong {b : Nat} {f g : Nat → Nat} : ∀ {n : Nat}, (∀ p, p < n → f p = g p) → cb b f n = cb b g n
  | 0, _ => rfl
  | n + 1, h => by rw [cb, cb, cb_cong (fun p hp => h p (by omega)), h n (by omega)]
theorem cb_pow {b : Nat} {f : Nat → Nat} : ∀ {n : Nat}, (∀ p, p < n → f p < b) → cb b f n < b ^ n
  | 0, _ => by simp [cb]
  | n + 1, h => by
    have h1 : cb b f n < b ^ n := cb_pow (fun p hp => h p (by omega))
    have h2 := h n (by omega)
    rw [cb, Nat.pow_succ]
    have h3 : (cb b f n + 1) * b ≤ b ^ n * b := Nat.mul_le_mul_right b h1
    rw [Nat.add_mul] at h3
    omega
theorem cb_step {b x y d e : Nat} (hd : d < b) (he : e < b) : (x * b + d < y * b + e ↔ x < y ∨ (x = y ∧ d < e)) := by
  rcases Nat.lt_trichotomy x y with h | h | h
  · have h3 : (x + 1) * b ≤ y * b := Nat.mul_le_mul_right b h
    rw [Nat.add_mul] at h3
    constructor
    · intro; exact Or.inl h
    · intro; omega
  · subst h
    omega
  · have h3 : (y + 1) * b ≤ x * b := Nat.mul_le_mul_right b h
    rw [Nat.add_mul] at h3
    omega
theorem cb_stepe {b x y d e : Nat} (hd : d < b) (he : e < b) : (x * b + d = y * b + e ↔ (x = y ∧ d = e)) := by
  rcases Nat.lt_trichotomy x y with h | h | h
  · have h3 : (x + 1) * b ≤ y * b := Nat.mul_le_mul_right b h
    rw [Nat.add_mul] at h3
    omega
  · subst h
    omega
  · have h3 : (y + 1) * b ≤ x * b := Nat.mul_le_mul_right b h
    rw [Nat.add_mul] at h3
    omega
theorem cb_eq {b : Nat} {f g : Nat → Nat} : ∀ {n : Nat}, (∀ p, p < n → f p < b) → (∀ p, p < n → g p < b) → (cb b f n = cb b g n ↔ ∀ p, p < n → f p = g p)
  | 0, _, _ => by simp [cb]
  | n + 1, hf, hg => by
    rw [cb, cb, cb_stepe (hf n (by omega)) (hg n (by omega)), cb_eq (fun p hp => hf p (by omega)) (fun p hp => hg p (by omega))]
    constructor
    · rintro ⟨h1, h2⟩ p hp
      rcases Nat.lt_succ_iff_lt_or_eq.mp hp with h | h
      · exact h1 p h
      · rw [h, h2]
    · intro h
      exact ⟨fun p hp => h p (by omega), h n (by omega)⟩
/-- the order of rows of digits doesn't hang on the base -/
theorem cb_ord {b c : Nat} {f g : Nat → Nat} : ∀ {n : Nat}, (∀ p, p < n → f p < b ∧ g p < b) → (∀ p, p < n → f p < c ∧ g p < c) → (cb b f n < cb b g n ↔ cb c f n < cb c g n)
  | 0, _, _ => by simp [cb]
  | n + 1, hb, hc => by
    have ih := cb_ord (n := n) (fun p hp => hb p (by omega)) (fun p hp => hc p (by omega))
    have e1 := cb_eq (b := b) (f := f) (g := g) (n := n) (fun p hp => (hb p (by omega)).1) (fun p hp => (hb p (by omega)).2)
    have e2 := cb_eq (b := c) (f := f) (g := g) (n := n) (fun p hp => (hc p (by omega)).1) (fun p hp => (hc p (by omega)).2)
    rw [cb, cb, cb, cb, cb_step (hb n (by omega)).1 (hb n (by omega)).2, cb_step (hc n (by omega)).1 (hc n (by omega)).2, ih, e1, e2]
/-- all digits one more -/
theorem cb_inc {b : Nat} {f : Nat → Nat} : ∀ n, cb b (fun p => f p + 1) n = cb b f n + cb b (fun _ => 1) n
  | 0 => rfl
  | n + 1 => by
    rw [cb, cb, cb, cb_inc n, Nat.add_mul]
    omega
theorem cb_digit {b : Nat} {f : Nat → Nat} : ∀ {n p : Nat}, (∀ p, p < n → f p < b) → p < n → cb b f n / b ^ (n - 1 - p) % b = f p
  | 0, p, _, hp => by omega
  | n + 1, p, h, hp => by
    have hn := h n (by omega)
    rcases Nat.lt_succ_iff_lt_or_eq.mp hp with h1 | h1
    · have e : n + 1 - 1 - p = 1 + (n - 1 - p) := by omega
      rw [cb, e, Nat.pow_add, ← Nat.div_div_eq_div_mul, Nat.pow_one, Nat.mul_comm, Nat.mul_add_div (by omega), Nat.div_eq_of_lt hn, Nat.add_zero]
      exact cb_digit (fun p hp => h p (by omega)) h1
    · subst h1
      rw [cb, show p + 1 - 1 - p = 0 by omega, Nat.pow_zero, Nat.div_one, Nat.mul_comm, Nat.mul_add_mod, Nat.mod_eq_of_lt hn]
theorem dg_pak {n p : Nat} {f : Nat → Nat} (hn : n ≤ 6) (hf : ∀ p, p < n → f p < 8) (hp : p < n) : dg (pak n f) p = f p := by
  have e : (5 - p) = (6 - n) + (n - 1 - p) := by omega
  rw [dg, pak, e, Nat.pow_add, ← Nat.div_div_eq_div_mul, Nat.mul_div_cancel _ (Nat.pow_pos (by decide))]
  exact cb_digit hf hp
theorem dg_pak0 {n p : Nat} {f : Nat → Nat} (hp : n ≤ p) (h6 : p < 6) : dg (pak n f) p = 0 := by
  have e : (6 - n) = (p - n + 1) + (5 - p) := by omega
  rw [dg, pak, e, Nat.pow_add, ← Nat.mul_assoc, Nat.mul_div_cancel _ (Nat.pow_pos (by decide)), Nat.pow_succ, ← Nat.mul_assoc, Nat.mul_mod_left]
theorem pak_lt {n : Nat} {f : Nat → Nat} (hn : n ≤ 6) (hf : ∀ p, p < n → f p < 8) : pak n f < 262144 := by
  have h := cb_pow hf
  have e : 8 ^ n * 8 ^ (6 - n) = 262144 := by rw [← Nat.pow_add, show n + (6 - n) = 6 by omega]
  rw [pak, ← e]
  exact Nat.mul_lt_mul_of_pos_right h (Nat.pow_pos (by decide))
theorem cb_dg (x : Nat) : ∀ n, n ≤ 6 → cb 8 (dg x) n = x / 8 ^ (6 - n) % 8 ^ n
  | 0, _ => by simp [cb, Nat.mod_one]
  | n + 1, h => by
    rw [cb, cb_dg x n (by omega), dg, show 6 - (n + 1) = 5 - n by omega, show 6 - n = (5 - n) + 1 by omega, Nat.pow_succ, ← Nat.div_div_eq_div_mul, Nat.pow_succ, Nat.mul_comm (8 ^ n) 8, Nat.mod_mul]
    omega
theorem dg_ext {x y : Nat} (hx : x < 262144) (hy : y < 262144) (h : ∀ p, p < 6 → dg x p = dg y p) : x = y := by
  have h1 := cb_dg x 6 (by omega)
  have h2 := cb_dg y 6 (by omega)
  rw [cb_cong h, h2] at h1
  have e : (8 : Nat) ^ 6 = 262144 := by decide
  rw [e, Nat.mod_eq_of_lt, Nat.mod_eq_of_lt] at h1
  · simpa using h1.symm
  · simpa using hx
  · simpa using hy
theorem pak_cong {n : Nat} {f g : Nat → Nat} (h : ∀ p, p < n → f p = g p) : pak n f = pak n g := by rw [pak, pak, cb_cong h]
theorem pak_ord {n : Nat} (f g : Nat → Nat) : pak n f < pak n g ↔ cb 8 f n < cb 8 g n := by
  unfold pak
  exact Nat.mul_lt_mul_right (Nat.pow_pos (by decide))
-- paintings, rows, moves
def Pt (n k x : Nat) : Prop := x < 262144 ∧ (∀ p, p < n → dg x p < k) ∧ ∀ p, n ≤ p → p < 6 → dg x p = 0
def Rw (n x : Nat) : Prop := Pt n n x ∧ ∀ p q, p < n → q < n → dg x p = dg x q → p = q
def Mv (n K : Nat) : Prop := Rw n (K / 2)
def ac (n P r : Nat) : Nat := pak n (fun p => dg P (dg r p))
def idr (n : Nat) : Nat := pak n (fun p => p)
def mu (n K L : Nat) : Nat := 2 * ac n (K / 2) (L / 2) + (K + L) % 2
theorem Pt_pak {n k : Nat} {f : Nat → Nat} (hn : n ≤ 6) (hk : k ≤ 8) (h : ∀ p, p < n → f p < k) : Pt n k (pak n f) := by
  refine ⟨pak_lt hn (fun p hp => Nat.lt_of_lt_of_le (h p hp) hk), ?_, ?_⟩
  · intro p hp
    rw [dg_pak hn (fun p hp => Nat.lt_of_lt_of_le (h p hp) hk) hp]
    exact h p hp
  · intro p hp h6
    exact dg_pak0 hp h6
theorem Pt.ext {n k j x y : Nat} (hx : Pt n k x) (hy : Pt n j y) (h : ∀ p, p < n → dg x p = dg y p) : x = y := by
  refine dg_ext hx.1 hy.1 (fun p hp => ?_)
  by_cases hn : p < n
  · exact h p hn
  · rw [hx.2.2 p (by omega) hp, hy.2.2 p (by omega) hp]
theorem Pt.eta {n k x : Nat} (hn : n ≤ 6) (hx : Pt n k x) : pak n (dg x) = x := by
  refine Pt.ext (k := 8) (j := k) (n := n) (Pt_pak hn (by omega) (fun p _ => dg_lt x p)) hx (fun p hp => ?_)
  rw [dg_pak hn (fun p _ => dg_lt x p) hp]
theorem ac_dg {n P r p : Nat} (hn : n ≤ 6) (hp : p < n) : dg (ac n P r) p = dg P (dg r p) := by
  rw [ac, dg_pak hn (fun p _ => dg_lt _ _) hp]
theorem ac_Pt {n k P r : Nat} (hn : n ≤ 6) (hk : k ≤ 8) (hP : Pt n k P) (hr : ∀ p, p < n → dg r p < n) : Pt n k (ac n P r) := Pt_pak hn hk (fun p hp => hP.2.1 _ (hr p hp))
theorem ac_ac {n P a b : Nat} (hn : n ≤ 6) (hb : ∀ p, p < n → dg b p < n) : ac n (ac n P a) b = ac n P (ac n a b) := by
  rw [ac, ac.eq_def n P (ac n a b)]
  exact pak_cong (fun p hp => by rw [ac_dg hn (hb p hp), ac_dg hn hp])
theorem idr_dg {n p : Nat} (hn : n ≤ 6) (hp : p < n) : dg (idr n) p = p := dg_pak hn (fun p hp => by omega) hp
theorem ac_id {n k P : Nat} (hn : n ≤ 6) (hP : Pt n k P) : ac n P (idr n) = P := by
  rw [ac, pak_cong (g := dg P) (fun p hp => by rw [idr_dg hn hp]), hP.eta hn]
theorem id_ac {n r : Nat} (hn : n ≤ 6) (hr : Pt n n r) : ac n (idr n) r = r := by
  rw [ac, pak_cong (g := dg r) (fun p hp => by rw [idr_dg hn (hr.2.1 p hp)]), hr.eta hn]
theorem idr_Rw {n : Nat} (hn : n ≤ 6) : Rw n (idr n) := by
  refine ⟨Pt_pak hn (by omega) (fun p hp => hp), ?_⟩
  intro p q hp hq h
  rwa [idr_dg hn hp, idr_dg hn hq] at h
theorem Rw.ac {n a b : Nat} (hn : n ≤ 6) (ha : Rw n a) (hb : Rw n b) : Rw n (ac n a b) := by
  refine ⟨ac_Pt hn (by omega) ha.1 hb.1.2.1, ?_⟩
  intro p q hp hq h
  rw [ac_dg hn hp, ac_dg hn hq] at h
  exact hb.2 p q hp hq (ha.2 _ _ (hb.1.2.1 p hp) (hb.1.2.1 q hq) h)
/-- a row meets every place -/
theorem Rw.onto {n a y : Nat} (ha : Rw n a) (hy : y < n) : ∃ p, p < n ∧ dg a p = y := by
  refine fb_onto (f := dg a) (fun i hi => ha.1.2.1 i hi) ?_ hy
  intro i j hij hj h
  have := ha.2 i j (by omega) hj h
  omega
/-- what a row makes tells what it was made of -/
theorem ac_inj {n k j P Q r : Nat} (hn : n ≤ 6) (hP : Pt n k P) (hQ : Pt n j Q) (hr : Rw n r) (h : ac n P r = ac n Q r) : P = Q := by
  refine hP.ext hQ (fun p hp => ?_)
  obtain ⟨q, hq, rfl⟩ := hr.onto hp
  rw [← ac_dg hn hq, ← ac_dg hn hq, h]
theorem mu_div (n K L : Nat) : mu n K L / 2 = ac n (K / 2) (L / 2) := by unfold mu; omega
theorem mu_mod (n K L : Nat) : mu n K L % 2 = (K + L) % 2 := by unfold mu; omega
theorem key_ext {K L : Nat} (h1 : K / 2 = L / 2) (h2 : K % 2 = L % 2) : K = L := by omega
theorem Mv.mu {n K L : Nat} (hn : n ≤ 6) (hK : Mv n K) (hL : Mv n L) : Mv n (mu n K L) := by
  unfold Mv
  rw [mu_div]
  exact Rw.ac hn hK hL
theorem mu_assoc {n a b c : Nat} (hn : n ≤ 6) (hc : Mv n c) : mu n (mu n a b) c = mu n a (mu n b c) := by
  refine key_ext ?_ ?_
  · rw [mu_div, mu_div, mu_div, mu_div, ac_ac hn hc.1.2.1]
  · have e1 := mu_mod n a b
    have e2 := mu_mod n b c
    rw [mu_mod, mu_mod]
    omega
def one (n : Nat) : Nat := 2 * idr n
theorem one_div (n : Nat) : one n / 2 = idr n := by unfold one; omega
theorem one_mod (n : Nat) : one n % 2 = 0 := by unfold one; omega
theorem Mv.one {n : Nat} (hn : n ≤ 6) : Mv n (one n) := by
  unfold Mv
  rw [one_div]
  exact idr_Rw hn
theorem one_mu {n K : Nat} (hn : n ≤ 6) (hK : Mv n K) : mu n (one n) K = K := by
  refine key_ext ?_ ?_
  · rw [mu_div, one_div, id_ac hn hK.1]
  · rw [mu_mod, Nat.add_mod, one_mod]
    omega
theorem mu_one {n K : Nat} (hn : n ≤ 6) (hK : Mv n K) : mu n K (one n) = K := by
  refine key_ext ?_ ?_
  · rw [mu_div, one_div, ac_id hn hK.1]
  · rw [mu_mod, Nat.add_mod, one_mod]
    omega
theorem mu_inj {n a b c : Nat} (hn : n ≤ 6) (ha : Mv n a) (hb : Mv n b) (hc : Mv n c) (h : mu n a c = mu n b c) : a = b := by
  have h1 := congrArg (· / 2) h
  have h2 := congrArg (· % 2) h
  simp only [mu_div, mu_mod] at h1 h2
  refine key_ext (ac_inj hn ha.1 hb.1 hc h1) (by omega)
theorem ac_mu {n P a b : Nat} (hn : n ≤ 6) (hb : Mv n b) : ac n (ac n P (a / 2)) (b / 2) = ac n P (mu n a b / 2) := by
  rw [mu_div, ac_ac hn hb.1.2.1]
