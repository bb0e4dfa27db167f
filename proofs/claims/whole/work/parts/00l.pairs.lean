-- ===== turns and mirrors; pairs =====
def B0 (B : List Nat) : List Nat := B.filter (fun K => decide (K % 2 = 0))
theorem B0_mem {B : List Nat} {K : Nat} : K ∈ B0 B ↔ K ∈ B ∧ K % 2 = 0 := by simp [B0]
theorem B0_Gp {n : Nat} {B : List Nat} (h : Gp n B) : Gp n (B0 B) := by
  refine ⟨h.1.sublist List.filter_sublist, fun K hK => h.2.1 K (B0_mem.mp hK).1, B0_mem.mpr ⟨h.2.2.1, one_mod n⟩, fun a ha b hb => ?_⟩
  obtain ⟨ha, ha2⟩ := B0_mem.mp ha
  obtain ⟨hb, hb2⟩ := B0_mem.mp hb
  refine B0_mem.mpr ⟨h.2.2.2 a ha b hb, ?_⟩
  rw [mu_mod]
  omega
/-- the mirrors are one mirror, and a turn behind it -/
theorem mirror_of {n m K : Nat} {B : List Nat} (hn : n ≤ 6) (h : Gp n B) (hm : m ∈ B) (hm2 : m % 2 = 1) (hK : K ∈ B) (hK2 : K % 2 = 1) : ∃ j ∈ B0 B, mu n m j = K := by
  obtain ⟨b, hb, e⟩ := h.left hn hm hK
  refine ⟨b, B0_mem.mpr ⟨hb, ?_⟩, e⟩
  have := mu_mod n m b
  rw [e] at this
  omega
def oth (n m P : Nat) (B : List Nat) : Nat := lst n (ac n P (m / 2)) (B0 B)
theorem oth_le {n m P K k : Nat} {B : List Nat} (hn : n ≤ 6) (h : Gp n B) (hm : m ∈ B) (hm2 : m % 2 = 1) (hK : K ∈ B) (hK2 : K % 2 = 1) (hP : Pt n k P) : oth n m P B ≤ ac n P (K / 2) := by
  obtain ⟨j, hj, e⟩ := mirror_of hn h hm hm2 hK hK2
  have := lst_le (n := n) (P := ac n P (m / 2)) hj
  rwa [ac_mu hn (h.2.1 j (B0_mem.mp hj).1), e] at this
theorem oth_is {n m P k : Nat} {B : List Nat} (hn : n ≤ 6) (hk : k ≤ 8) (h : Gp n B) (hm : m ∈ B) (hm2 : m % 2 = 1) (hP : Pt n k P) : ∃ K ∈ B, K % 2 = 1 ∧ ac n P (K / 2) = oth n m P B := by
  obtain ⟨j, hj, e⟩ := lst_is hn (B0_Gp h) (ac_PtM hn hk hP (h.2.1 m hm))
  obtain ⟨hj1, hj2⟩ := B0_mem.mp hj
  refine ⟨mu n m j, h.2.2.2 m hm j hj1, ?_, ?_⟩
  · rw [mu_mod]; omega
  · rw [← ac_mu hn (h.2.1 j hj1)]; exact e
theorem oth_Pt {n m P k : Nat} {B : List Nat} (hn : n ≤ 6) (hk : k ≤ 8) (h : Gp n B) (hm : m ∈ B) (hP : Pt n k P) : Pt n k (oth n m P B) := lst_Pt hn hk (B0_Gp h) (ac_PtM hn hk hP (h.2.1 m hm))
theorem oth_lst {n m P k : Nat} {B : List Nat} (hn : n ≤ 6) (hk : k ≤ 8) (h : Gp n B) (hm : m ∈ B) (hP : Pt n k P) : lst n (oth n m P B) (B0 B) = oth n m P B := lst_idem hn hk (B0_Gp h) (ac_PtM hn hk hP (h.2.1 m hm))
theorem oth_oth {n m P k : Nat} {B : List Nat} (hn : n ≤ 6) (hk : k ≤ 8) (h : Gp n B) (hm : m ∈ B) (hm2 : m % 2 = 1) (hP : Pt n k P) : oth n m (oth n m P B) B = lst n P (B0 B) := by
  obtain ⟨K, hK, hK2, e⟩ := oth_is hn hk h hm hm2 hP
  rw [← e, oth, ac_mu hn (h.2.1 m hm)]
  refine lst_ac hn hk (B0_Gp h) hP (B0_mem.mpr ⟨h.2.2.2 K hK m hm, ?_⟩)
  rw [mu_mod]
  omega
theorem lst_both {n m P k : Nat} {B : List Nat} (hn : n ≤ 6) (hk : k ≤ 8) (h : Gp n B) (hm : m ∈ B) (hm2 : m % 2 = 1) (hP : Pt n k P) : lst n P B = min (lst n P (B0 B)) (oth n m P B) := by
  refine (lst_one hn h hP ?_ ?_).symm
  · rcases Nat.le_total (lst n P (B0 B)) (oth n m P B) with h1 | h1
    · rw [Nat.min_eq_left h1]
      obtain ⟨K, hK, e⟩ := lst_is hn (B0_Gp h) hP
      exact ⟨K, (B0_mem.mp hK).1, e⟩
    · rw [Nat.min_eq_right h1]
      obtain ⟨K, hK, -, e⟩ := oth_is hn hk h hm hm2 hP
      exact ⟨K, hK, e⟩
  · intro K hK
    by_cases e : K % 2 = 0
    · exact Nat.le_trans (Nat.min_le_left _ _) (lst_le (B0_mem.mpr ⟨hK, e⟩))
    · exact Nat.le_trans (Nat.min_le_right _ _) (oth_le hn h hm hm2 hK (by omega) hP)
/-- how many classes by 0 have another hand: twice as many as there are fewer classes by 1 -/
theorem pairs_of {n m k : Nat} {B X : List Nat} (hn : n ≤ 6) (hk : k ≤ 8) (h : Gp n B) (hm : m ∈ B) (hm2 : m % 2 = 1) (hX : X.Nodup) (hXP : ∀ P, P ∈ X ↔ Pt n k P) :
    ∃ a, X.countP (fun P => decide (lst n P (B0 B) = P)) = X.countP (fun P => decide (lst n P B = P)) + a ∧ (X.filter (fun P => decide (lst n P (B0 B) = P))).countP (fun P => decide (oth n m P B ≠ lst n P (B0 B))) = 2 * a := by
  have hLm : ∀ P, P ∈ X.filter (fun P => decide (lst n P (B0 B) = P)) ↔ Pt n k P ∧ lst n P (B0 B) = P := fun P => by
    rw [List.mem_filter, hXP, decide_eq_true_eq]
  have hLn : (X.filter (fun P => decide (lst n P (B0 B) = P))).Nodup := hX.sublist List.filter_sublist
  have h1 : X.countP (fun P => decide (lst n P B = P)) = (X.filter (fun P => decide (lst n P (B0 B) = P))).countP (fun P => decide (P ≤ oth n m P B)) := by
    rw [List.countP_filter]
    refine List.countP_congr (fun P hP => ?_)
    have hP := (hXP P).mp hP
    rw [Bool.and_eq_true, decide_eq_true_eq, decide_eq_true_eq, decide_eq_true_eq, lst_both hn hk h hm hm2 hP]
    have := lst_self hn (B0_Gp h) hP
    omega
  have h0 : X.countP (fun P => decide (lst n P (B0 B) = P)) = (X.filter (fun P => decide (lst n P (B0 B) = P))).length := List.countP_eq_length_filter
  rw [h1, h0]
  generalize X.filter (fun P => decide (lst n P (B0 B) = P)) = L at hLm hLn
  refine ⟨L.countP (fun P => decide (oth n m P B < P)), ?_, ?_⟩
  · rw [List.length_eq_countP_add_countP (fun P => decide (P ≤ oth n m P B)) (l := L)]
    congr 1
    refine List.countP_congr (fun P _ => ?_)
    simp
  · have hp : (L.map (fun P => oth n m P B)).Perm L := by
      refine nd_onto hLn (fun P hP => ?_) (fun P hP Q hQ e => ?_)
      · have hP := (hLm P).mp hP
        exact (hLm _).mpr ⟨oth_Pt hn hk h hm hP.1, oth_lst hn hk h hm hP.1⟩
      · have hP := (hLm P).mp hP
        have hQ := (hLm Q).mp hQ
        rw [← hP.2, ← oth_oth hn hk h hm hm2 hP.1, e, oth_oth hn hk h hm hm2 hQ.1, hQ.2]
    have h3 : L.countP (fun P => decide (P < oth n m P B)) = L.countP (fun P => decide (oth n m P B < P)) := by
      rw [← hp.countP_eq (fun P => decide (oth n m P B < P)), List.countP_map]
      refine List.countP_congr (fun P hP => ?_)
      have hP := (hLm P).mp hP
      simp only [Function.comp, decide_eq_true_eq]
      rw [oth_oth hn hk h hm hm2 hP.1, hP.2]
    have h4 : L.countP (fun P => decide (oth n m P B ≠ lst n P (B0 B))) = L.countP (fun P => decide (oth n m P B < P)) + L.countP (fun P => decide (P < oth n m P B)) := by
      rw [sm_countP, sm_countP, sm_countP, ← sm_add]
      refine sm_cong (fun P hP => ?_)
      have hP := (hLm P).mp hP
      rw [hP.2]
      simp only [decide_eq_true_eq]
      split <;> split <;> split <;> omega
    rw [h4, h3]
    omega
