-- ===== partial steps of the pure functions =====
theorem q_ob {α β : Type} {o : Option α} {k : α → Option β} {r : β} (h : o.bind k = some r) : ∃ v, o = some v ∧ k v = some r := by
  cases o with
  | none => cases h
  | some v => exact ⟨v, rfl, h⟩
theorem q_ip {β : Type} {q : Prop} [Decidable q] {x y : Option β} {r : Option β} (hq : q) (h : (if q then x else y) = r) : x = r := by rwa [if_pos hq] at h
theorem q_in {β : Type} {q : Prop} [Decidable q] {x y : Option β} {r : Option β} (hq : ¬ q) (h : (if q then x else y) = r) : y = r := by rwa [if_neg hq] at h
def q_rd {α : Type} (a : Nat → α) (n : Nat) (i : Int32) : Option α := if i < 0 ∨ n ≤ i.toNatClampNeg then none else some (a i.toNatClampNeg)
def q_wt (a : Nat → Int32) (n : Nat) (i x : Int32) : Option (Nat → Int32) := if i < 0 ∨ n ≤ i.toNatClampNeg then none else some (upd a i.toNatClampNeg x)
def q_wl (a : Nat → Int64) (n : Nat) (i : Int32) (x : Int64) : Option (Nat → Int64) := if i < 0 ∨ n ≤ i.toNatClampNeg then none else some (vp_updL a i.toNatClampNeg x)
def q_wz (a : Nat → Int32) (n : Nat) (i x : Int32) : Option (Nat → Int32) := if i < 0 ∨ n ≤ i.toNatClampNeg then none else some (upd a i.toNatClampNeg (vp_nar .boolean x))
def q_dv (x y : Int32) : Option Int32 := if y = 0 then none else some (x / y)
def q_rm (x y : Int32) : Option Int32 := if y = 0 then none else some (x - x / y * y)
def q_ld (x y : Int64) : Option Int64 := if y = 0 then none else some (x / y)
def q_rz (x : Int32) : Option Int32 := if x = 0 ∨ x = 1 then some x else none
def q_n64 (r : UInt64) : Option UInt64 := if r &&& 0x7fffffffffffffff ≤ 0x7ff0000000000000 then some r else none
def q_n32 (r : UInt32) : Option UInt32 := if r &&& 0x7fffffff ≤ 0x7f800000 then some r else none
theorem q_rd_i {α : Type} {a : Nat → α} {n : Nat} {i : Int32} {v : α} (h : q_rd a n i = some v) : vp_in i n ∧ a i.toNatClampNeg = v := by
  unfold q_rd at h
  split at h
  · cases h
  · exact ⟨‹_›, Option.some.inj h⟩
theorem q_wt_i {a g : Nat → Int32} {n : Nat} {i x : Int32} (h : q_wt a n i x = some g) : vp_in i n ∧ upd a i.toNatClampNeg x = g := by
  unfold q_wt at h
  split at h
  · cases h
  · exact ⟨‹_›, Option.some.inj h⟩
theorem q_wl_i {a g : Nat → Int64} {n : Nat} {i : Int32} {x : Int64} (h : q_wl a n i x = some g) : vp_in i n ∧ vp_updL a i.toNatClampNeg x = g := by
  unfold q_wl at h
  split at h
  · cases h
  · exact ⟨‹_›, Option.some.inj h⟩
theorem q_wz_i {a g : Nat → Int32} {n : Nat} {i x : Int32} (h : q_wz a n i x = some g) : vp_in i n ∧ upd a i.toNatClampNeg (vp_nar .boolean x) = g := by
  unfold q_wz at h
  split at h
  · cases h
  · exact ⟨‹_›, Option.some.inj h⟩
theorem q_dv_i {x y v : Int32} (h : q_dv x y = some v) : ¬ y = 0 ∧ x / y = v := by
  unfold q_dv at h
  split at h
  · cases h
  · exact ⟨‹_›, Option.some.inj h⟩
theorem q_rm_i {x y v : Int32} (h : q_rm x y = some v) : ¬ y = 0 ∧ x - x / y * y = v := by
  unfold q_rm at h
  split at h
  · cases h
  · exact ⟨‹_›, Option.some.inj h⟩
theorem q_ld_i {x y v : Int64} (h : q_ld x y = some v) : ¬ y = 0 ∧ x / y = v := by
  unfold q_ld at h
  split at h
  · cases h
  · exact ⟨‹_›, Option.some.inj h⟩
theorem q_rz_i {x v : Int32} (h : q_rz x = some v) : (x = 0 ∨ x = 1) ∧ x = v := by
  unfold q_rz at h
  split at h
  · exact ⟨‹_›, Option.some.inj h⟩
  · cases h
theorem q_n64_i {r v : UInt64} (h : q_n64 r = some v) : vf_n64 r ∧ r = v := by
  unfold q_n64 at h
  split at h
  · exact ⟨‹_›, Option.some.inj h⟩
  · cases h
theorem q_n32_i {r v : UInt32} (h : q_n32 r = some v) : vf_n32 r ∧ r = v := by
  unfold q_n32 at h
  split at h
  · exact ⟨‹_›, Option.some.inj h⟩
  · cases h
def q_cyI : Nat → Int32 := fun j => match j with
  | 0 => 0
  | 1 => 100000
  | 2 => 10000
  | 3 => 1000
  | 4 => 100
  | 5 => 10
  | _ => 1
def q_fu : Nat := 6000
def q_cp {α : Type} (f g : Nat → α) (n0 n1 : Nat) (sp dp n : Int32) : Option (Nat → α) := if sp < 0 ∨ dp < 0 ∨ n < 0 ∨ n0 < sp.toNatClampNeg + n.toNatClampNeg ∨ n1 < dp.toNatClampNeg + n.toNatClampNeg then none else some (va_cpy f g sp.toNatClampNeg dp.toNatClampNeg n.toNatClampNeg)
theorem q_cp_i {α : Type} {f g r : Nat → α} {n0 n1 : Nat} {sp dp n : Int32} (h : q_cp f g n0 n1 sp dp n = some r) : (¬ sp < 0 ∧ ¬ dp < 0 ∧ ¬ n < 0 ∧ sp.toNatClampNeg + n.toNatClampNeg ≤ n0 ∧ dp.toNatClampNeg + n.toNatClampNeg ≤ n1) ∧ va_cpy f g sp.toNatClampNeg dp.toNatClampNeg n.toNatClampNeg = r := by
  unfold q_cp at h
  split at h
  · cases h
  · rename_i q
    exact ⟨⟨fun a => q (Or.inl a), fun a => q (Or.inr (Or.inl a)), fun a => q (Or.inr (Or.inr (Or.inl a))), Nat.not_lt.mp fun a => q (Or.inr (Or.inr (Or.inr (Or.inl a)))), Nat.not_lt.mp fun a => q (Or.inr (Or.inr (Or.inr (Or.inr a))))⟩, Option.some.inj h⟩
def q_nw (n : Int32) : Option Nat := if n < 0 ∨ 4096 < n.toNatClampNeg then none else some n.toNatClampNeg
theorem q_nw_i {n : Int32} {N : Nat} (h : q_nw n = some N) : ¬ n < 0 ∧ n.toNatClampNeg = N ∧ N ≤ 4096 := by
  unfold q_nw at h
  split at h
  · cases h
  · rename_i q
    have e := Option.some.inj h
    exact ⟨fun z => q (Or.inl z), e, e ▸ Nat.not_lt.mp fun z => q (Or.inr z)⟩
