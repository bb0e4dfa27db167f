-- ===== rows and their cycles =====
/-- the digits of a row, as a row of numbers -/
def rwl (n r : Nat) : List Nat := (List.range n).map (dg r)
def rwf (n r : Nat) : Nat → Nat := fun p => (rwl n r).getD p 0
theorem rwf_lt {n r p : Nat} (hp : p < n) : rwf n r p = dg r p := by
  unfold rwf rwl
  rw [List.getD_eq_getElem?_getD, List.getElem?_map, List.getElem?_range hp]
  rfl
theorem chk_Rw {n r : Nat} (h2 : 2 ≤ n) (h6 : n ≤ 6) (hr : Rw n r) : chk n (rwl n r) = true := by
  have hn : (rwl n r).Nodup := by
    refine nd_map List.nodup_range (fun x hx y hy e => hr.2 x y (List.mem_range.mp hx) (List.mem_range.mp hy) e)
  have hl : (rwl n r).length = n := by simp [rwl]
  have hd : ∀ d ∈ rwl n r, d < n := by
    intro d hd
    obtain ⟨p, hp, rfl⟩ := List.mem_map.mp hd
    exact hr.1.2.1 p (List.mem_range.mp hp)
  have hg : goP n (chk n) n [] = true := by
    rcases (show n = 2 ∨ n = 3 ∨ n = 4 ∨ n = 5 ∨ n = 6 by omega) with rfl | rfl | rfl | rfl | rfl
    · exact chk_2
    · exact chk_3
    · exact chk_4
    · exact chk_5
    · exact chk_6
  exact goP_ok n [] (rwl n r) hl hn hd hg
theorem chk_facts {n r : Nat} (h2 : 2 ≤ n) (h6 : n ≤ 6) (hr : Rw n r) :
    (∀ p, p < n → rp (rwf n r) (rwf n r p) = rp (rwf n r) p ∧ rp (rwf n r) (rp (rwf n r) p) = rp (rwf n r) p ∧ wk (rwf n r) 7 (lens (rwf n r) p).1 p = wk (rwf n r) 6 (lens (rwf n r) p).1 p) ∧
    (List.range n).countP (fun p => decide (rp (rwf n r) p = p)) = ncy n (rwf n r) ∧ typ n (rwf n r) ∈ tyl n ∧ dsum 6 (typ n (rwf n r)) = ncy n (rwf n r) ∧ cb 10 (fun i => (cyl n (rwf n r)).countP (fun l => decide (l = i + 1))) 6 = typ n (rwf n r) := by
  have h := chk_Rw h2 h6 hr
  unfold chk at h
  simp only [Bool.and_eq_true, List.all_eq_true, List.mem_range, beq_iff_eq, List.contains_iff_mem] at h
  exact ⟨fun p hp => ⟨(h.1.1.1.1 p hp).1.1, (h.1.1.1.1 p hp).1.2, (h.1.1.1.1 p hp).2⟩, h.1.1.1.2, h.1.1.2, h.1.2, h.2⟩
theorem rpf_le (r : Nat → Nat) (f p : Nat) : rpf r f p ≤ p := by
  cases f with
  | zero => exact Nat.le_refl _
  | succ f => exact Nat.min_le_left _ _
theorem rpf_dg {n P : Nat} {r : Nat → Nat} (hr : ∀ p, p < n → r p < n) (h : ∀ p, p < n → dg P (r p) = dg P p) : ∀ f p, p < n → dg P (rpf r f p) = dg P p
  | 0, _, _ => rfl
  | f + 1, p, hp => by
    rw [rpf]
    rcases Nat.le_total p (rpf r f (r p)) with h1 | h1
    · rw [Nat.min_eq_left h1]
    · rw [Nat.min_eq_right h1, rpf_dg hr h f (r p) (hr p hp), h p hp]
/-- so many paintings stay as they are -/
theorem stays {n k r : Nat} (h2 : 2 ≤ n) (h6 : n ≤ 6) (hk : 0 < k) (hk8 : k ≤ 8) (hr : Rw n r) : (XX n k).countP (fun P => decide (ac n P r = P)) = k ^ ncy n (rwf n r) := by
  obtain ⟨f1, f2, -⟩ := chk_facts h2 h6 hr
  rw [← f2, ← fixes (rp := rp (rwf n r)) hk (fun p => rpf_le _ 5 p) n, XX, List.countP_map]
  refine List.countP_congr (fun i _ => ?_)
  simp only [Function.comp, decide_eq_true_eq]
  have hP : Pt n k (pt n k i) := pt_Pt h6 hk hk8
  have hlt : ∀ p, p < n → rwf n r p < n := fun p hp => by rw [rwf_lt hp]; exact hr.1.2.1 p hp
  have e : ac n (pt n k i) r = pt n k i ↔ ∀ p, p < n → dg (pt n k i) (rwf n r p) = dg (pt n k i) p := by
    constructor
    · intro e p hp
      rw [rwf_lt hp, ← ac_dg h6 hp, e]
    · intro h
      refine (ac_Pt h6 hk8 hP hr.1.2.1).ext hP (fun p hp => ?_)
      rw [ac_dg h6 hp, ← rwf_lt hp, h p hp]
  rw [e]
  constructor
  · intro h p hp
    have := rpf_dg hlt h 5 p hp
    have hle := rpf_le (rwf n r) 5 p
    rw [pt_dg h6 hk hk8 hp, pt_dg h6 hk hk8 (by omega)] at this
    exact this.symm
  · intro h p hp
    have h3 := h (rwf n r p) (hlt p hp)
    have h4 := h p hp
    have hle := rpf_le (rwf n r) 5 p
    rw [(f1 p hp).1, ← h4] at h3
    rw [pt_dg h6 hk hk8 (hlt p hp), pt_dg h6 hk hk8 hp]
    exact h3
/-- how many classes there are, by the moves alone -/
theorem classes_by {n k : Nat} {B : List Nat} (h2 : 2 ≤ n) (h6 : n ≤ 6) (hk : 0 < k) (hk8 : k ≤ 8) (h : Gp n B) : sm (fun K => k ^ ncy n (rwf n (K / 2))) B = B.length * (XX n k).countP (fun P => decide (lst n P B = P)) := by
  rw [← burnside h6 hk8 h (XX_nodup h6 hk hk8) (fun P => XX_mem h6 hk hk8)]
  exact sm_cong (fun K hK => (stays h2 h6 hk hk8 (h.2.1 K hK)).symm)
