-- ===== moves as a group; classes; how many they are =====
theorem nd_map {f : Nat → Nat} {B : List Nat} (hB : B.Nodup) (hi : ∀ x ∈ B, ∀ y ∈ B, f x = f y → x = y) : (B.map f).Nodup := by
  induction B with
  | nil => simp
  | cons a B ih =>
    rw [List.nodup_cons] at hB
    rw [List.map_cons, List.nodup_cons]
    refine ⟨?_, ih hB.2 (fun x hx y hy => hi x (List.mem_cons_of_mem _ hx) y (List.mem_cons_of_mem _ hy))⟩
    intro h
    obtain ⟨x, hx, he⟩ := List.mem_map.mp h
    have := hi x (List.mem_cons_of_mem _ hx) a List.mem_cons_self he
    exact hB.1 (this ▸ hx)
theorem nd_onto {f : Nat → Nat} {B : List Nat} (hB : B.Nodup) (hf : ∀ x ∈ B, f x ∈ B) (hi : ∀ x ∈ B, ∀ y ∈ B, f x = f y → x = y) : (B.map f).Perm B := by
  have hn := nd_map hB hi
  have hs : ∀ a ∈ B.map f, a ∈ B := fun a h => by
    obtain ⟨x, hx, rfl⟩ := List.mem_map.mp h
    exact hf x hx
  refine (List.perm_ext_iff_of_nodup hn hB).mpr (fun a => ⟨hs a, fun h => ?_⟩)
  apply Classical.byContradiction
  intro hc
  have h1 := List.Nodup.length_le_of_subset (l₁ := a :: B.map f) (l₂ := B) (List.nodup_cons.mpr ⟨hc, hn⟩) (by
    intro x hx
    rcases List.mem_cons.mp hx with rfl | hx
    · exact h
    · exact hs x hx)
  simp at h1
  omega
/-- the sum of a row -/
def sm (f : Nat → Nat) (B : List Nat) : Nat := (B.map f).sum
theorem sm_nil (f : Nat → Nat) : sm f [] = 0 := rfl
theorem sm_cons (f : Nat → Nat) (a : Nat) (B : List Nat) : sm f (a :: B) = f a + sm f B := by simp [sm]
theorem sm_cong {f g : Nat → Nat} {B : List Nat} (h : ∀ a ∈ B, f a = g a) : sm f B = sm g B := by
  unfold sm
  rw [List.map_congr_left h]
theorem sm_const (c : Nat) (B : List Nat) : sm (fun _ => c) B = B.length * c := by
  induction B with
  | nil => simp [sm_nil]
  | cons a B ih => rw [sm_cons, ih, List.length_cons, Nat.add_mul]; omega
theorem sm_add (f g : Nat → Nat) (B : List Nat) : sm (fun a => f a + g a) B = sm f B + sm g B := by
  induction B with
  | nil => rfl
  | cons a B ih => rw [sm_cons, sm_cons, sm_cons, ih]; omega
theorem sm_countP (r : Nat → Bool) (B : List Nat) : B.countP r = sm (fun a => if r a then 1 else 0) B := by
  induction B with
  | nil => rfl
  | cons a B ih =>
    rw [sm_cons, List.countP_cons, ih]
    omega
/-- counted one way or the other -/
theorem sm_swap (r : Nat → Nat → Bool) (A B : List Nat) : sm (fun a => B.countP (r a)) A = sm (fun b => A.countP (fun a => r a b)) B := by
  induction A with
  | nil => simp [sm_nil, sm_const]
  | cons a A ih =>
    rw [sm_cons, ih, sm_countP, ← sm_add]
    refine sm_cong (fun b _ => ?_)
    rw [List.countP_cons]
    omega
/-- a set of moves that is closed -/
def Gp (n : Nat) (B : List Nat) : Prop := B.Nodup ∧ (∀ K ∈ B, Mv n K) ∧ one n ∈ B ∧ ∀ a ∈ B, ∀ b ∈ B, mu n a b ∈ B
theorem Gp.perm {n c : Nat} {B : List Nat} (hn : n ≤ 6) (h : Gp n B) (hc : c ∈ B) : (B.map (fun a => mu n a c)).Perm B :=
  nd_onto h.1 (fun x hx => h.2.2.2 x hx c hc) (fun x hx y hy e => mu_inj hn (h.2.1 x hx) (h.2.1 y hy) (h.2.1 c hc) e)
theorem Gp.linv {n a : Nat} {B : List Nat} (hn : n ≤ 6) (h : Gp n B) (ha : a ∈ B) : ∃ b ∈ B, mu n b a = one n := by
  obtain ⟨b, hb, e⟩ := List.mem_map.mp ((h.perm hn ha).mem_iff.mpr h.2.2.1)
  exact ⟨b, hb, e⟩
theorem Gp.inv {n a : Nat} {B : List Nat} (hn : n ≤ 6) (h : Gp n B) (ha : a ∈ B) : ∃ b ∈ B, mu n b a = one n ∧ mu n a b = one n := by
  obtain ⟨b, hb, e⟩ := h.linv hn ha
  obtain ⟨c, hc, e2⟩ := h.linv hn hb
  have h1 : mu n (mu n c b) a = mu n c (mu n b a) := mu_assoc hn (h.2.1 a ha)
  rw [e, e2, one_mu hn (h.2.1 a ha), mu_one hn (h.2.1 c hc)] at h1
  exact ⟨b, hb, e, by rw [h1]; exact e2⟩
theorem Gp.left {n a j : Nat} {B : List Nat} (hn : n ≤ 6) (h : Gp n B) (ha : a ∈ B) (hj : j ∈ B) : ∃ b ∈ B, mu n a b = j := by
  obtain ⟨b, hb, -, e⟩ := h.inv hn ha
  exact ⟨mu n b j, h.2.2.2 b hb j hj, by rw [← mu_assoc hn (h.2.1 j hj), e, one_mu hn (h.2.1 j hj)]⟩
-- the least of a class
def lf (n P : Nat) : List Nat → Nat → Nat
  | [], v => v
  | K :: B, v => lf n P B (min v (ac n P (K / 2)))
theorem lf_le {n P : Nat} : ∀ {B : List Nat} {v : Nat}, lf n P B v ≤ v ∧ ∀ K ∈ B, lf n P B v ≤ ac n P (K / 2)
  | [], v => ⟨Nat.le_refl _, fun K h => by cases h⟩
  | K :: B, v => by
    obtain ⟨h1, h2⟩ := lf_le (n := n) (P := P) (B := B) (v := min v (ac n P (K / 2)))
    refine ⟨Nat.le_trans h1 (Nat.min_le_left _ _), fun J hJ => ?_⟩
    rcases List.mem_cons.mp hJ with rfl | hJ
    · exact Nat.le_trans h1 (Nat.min_le_right _ _)
    · exact h2 J hJ
theorem lf_is {n P : Nat} : ∀ {B : List Nat} {v : Nat}, lf n P B v = v ∨ ∃ K ∈ B, lf n P B v = ac n P (K / 2)
  | [], v => Or.inl rfl
  | K :: B, v => by
    rcases lf_is (n := n) (P := P) (B := B) (v := min v (ac n P (K / 2))) with h | ⟨J, hJ, h⟩
    · rw [lf, h]
      rcases Nat.le_total v (ac n P (K / 2)) with h2 | h2
      · exact Or.inl (Nat.min_eq_left h2)
      · exact Or.inr ⟨K, List.mem_cons_self, Nat.min_eq_right h2⟩
    · exact Or.inr ⟨J, List.mem_cons_of_mem _ hJ, h⟩
def lst (n P : Nat) (B : List Nat) : Nat := lf n P B P
theorem ac_one {n k P : Nat} (hn : n ≤ 6) (hP : Pt n k P) : ac n P (one n / 2) = P := by rw [one_div, ac_id hn hP]
theorem lst_le {n P K : Nat} {B : List Nat} (h : K ∈ B) : lst n P B ≤ ac n P (K / 2) := lf_le.2 K h
theorem lst_is {n k P : Nat} {B : List Nat} (hn : n ≤ 6) (h : Gp n B) (hP : Pt n k P) : ∃ K ∈ B, ac n P (K / 2) = lst n P B := by
  rcases lf_is (n := n) (P := P) (B := B) (v := P) with e | ⟨K, hK, e⟩
  · exact ⟨one n, h.2.2.1, by rw [ac_one hn hP]; exact e.symm⟩
  · exact ⟨K, hK, e.symm⟩
/-- what some moves tell is the least of a class: there is one that makes it, and none makes less -/
theorem lst_one {n k P v : Nat} {B : List Nat} (hn : n ≤ 6) (h : Gp n B) (hP : Pt n k P) (h1 : ∃ K ∈ B, ac n P (K / 2) = v) (h2 : ∀ K ∈ B, v ≤ ac n P (K / 2)) : v = lst n P B := by
  obtain ⟨K, hK, rfl⟩ := h1
  obtain ⟨J, hJ, e⟩ := lst_is hn h hP
  refine Nat.le_antisymm ?_ (lst_le hK)
  rw [← e]
  exact h2 J hJ
theorem ac_PtM {n k P K : Nat} (hn : n ≤ 6) (hk : k ≤ 8) (hP : Pt n k P) (hK : Mv n K) : Pt n k (ac n P (K / 2)) := ac_Pt hn hk hP hK.1.2.1
theorem lst_Pt {n k P : Nat} {B : List Nat} (hn : n ≤ 6) (hk : k ≤ 8) (h : Gp n B) (hP : Pt n k P) : Pt n k (lst n P B) := by
  obtain ⟨K, hK, e⟩ := lst_is hn h hP
  rw [← e]
  exact ac_PtM hn hk hP (h.2.1 K hK)
/-- of one class: the same least -/
theorem lst_ac {n k P K : Nat} {B : List Nat} (hn : n ≤ 6) (hk : k ≤ 8) (h : Gp n B) (hP : Pt n k P) (hK : K ∈ B) : lst n (ac n P (K / 2)) B = lst n P B := by
  have hM := h.2.1 K hK
  refine lst_one hn h hP ?_ ?_
  · obtain ⟨J, hJ, e⟩ := lst_is hn h (ac_PtM hn hk hP hM)
    exact ⟨mu n K J, h.2.2.2 K hK J hJ, by rw [← ac_mu hn (h.2.1 J hJ), e]⟩
  · intro J hJ
    obtain ⟨b, hb, e⟩ := h.left hn hK hJ
    rw [← e, ← ac_mu hn (h.2.1 b hb)]
    exact lst_le hb
theorem lst_same {n k P Q : Nat} {B : List Nat} (hn : n ≤ 6) (hk : k ≤ 8) (h : Gp n B) (hP : Pt n k P) (hQ : Pt n k Q) : (∃ K ∈ B, ac n P (K / 2) = Q) ↔ lst n P B = lst n Q B := by
  constructor
  · rintro ⟨K, hK, rfl⟩
    exact (lst_ac hn hk h hP hK).symm
  · intro he
    obtain ⟨K, hK, e⟩ := lst_is hn h hP
    obtain ⟨J, hJ, e2⟩ := lst_is hn h hQ
    obtain ⟨b, hb, -, e3⟩ := h.inv hn hJ
    refine ⟨mu n K b, h.2.2.2 K hK b hb, ?_⟩
    rw [← ac_mu hn (h.2.1 b hb), e, he, ← e2, ac_mu hn (h.2.1 b hb), e3, ac_one hn hQ]
theorem lst_idem {n k P : Nat} {B : List Nat} (hn : n ≤ 6) (hk : k ≤ 8) (h : Gp n B) (hP : Pt n k P) : lst n (lst n P B) B = lst n P B := by
  obtain ⟨K, hK, e⟩ := lst_is hn h hP
  rw [← e, lst_ac hn hk h hP hK]
  exact e.symm
theorem lst_self {n k P : Nat} {B : List Nat} (hn : n ≤ 6) (h : Gp n B) (hP : Pt n k P) : lst n P B ≤ P := by
  have := lst_le (P := P) (n := n) h.2.2.1
  rwa [ac_one hn hP] at this
theorem lst_fix {n k P : Nat} {B : List Nat} (hn : n ≤ 6) (h : Gp n B) (hP : Pt n k P) : lst n P B = P ↔ ∀ K ∈ B, P ≤ ac n P (K / 2) := by
  constructor
  · intro e K hK
    have := lst_le (n := n) (P := P) hK
    omega
  · intro h2
    exact (lst_one hn h hP ⟨one n, h.2.2.1, ac_one hn hP⟩ h2).symm
/-- as many moves make the least of it as leave it -/
theorem stay_eq {n k P : Nat} {B : List Nat} (hn : n ≤ 6) (hk : k ≤ 8) (h : Gp n B) (hP : Pt n k P) : B.countP (fun K => decide (ac n P (K / 2) = lst n P B)) = B.countP (fun K => decide (ac n P (K / 2) = P)) := by
  obtain ⟨K0, hK0, e0⟩ := lst_is hn h hP
  rw [← (h.perm hn hK0).countP_eq, List.countP_map]
  refine List.countP_congr (fun K hK => ?_)
  simp only [Function.comp, decide_eq_true_eq]
  rw [← e0, ← ac_mu hn (h.2.1 K0 hK0)]
  constructor
  · intro e
    exact ac_inj hn (ac_PtM hn hk hP (h.2.1 K hK)) hP (h.2.1 K0 hK0) e
  · intro e
    rw [e]
/-- a sum over all paintings, and over all moves -/
theorem burnside {n k : Nat} {B X : List Nat} (hn : n ≤ 6) (hk : k ≤ 8) (h : Gp n B) (hX : X.Nodup) (hXP : ∀ P, P ∈ X ↔ Pt n k P) : sm (fun K => X.countP (fun P => decide (ac n P (K / 2) = P))) B = B.length * X.countP (fun P => decide (lst n P B = P)) := by
  rw [sm_swap (fun K P => decide (ac n P (K / 2) = P)) B X]
  rw [sm_cong (g := fun P => B.countP (fun K => decide (lst n (ac n P (K / 2)) B = ac n P (K / 2)))) (fun P hP => ?_)]
  · rw [sm_swap (fun P K => decide (lst n (ac n P (K / 2)) B = ac n P (K / 2))) X B, ← sm_const]
    refine sm_cong (fun K hK => ?_)
    have hp : (X.map (fun P => ac n P (K / 2))).Perm X := nd_onto hX (fun x hx => (hXP _).mpr (ac_PtM hn hk ((hXP x).mp hx) (h.2.1 K hK))) (fun x hx y hy e => ac_inj hn ((hXP x).mp hx) ((hXP y).mp hy) (h.2.1 K hK) e)
    rw [← hp.countP_eq (fun P => decide (lst n P B = P)), List.countP_map]
    rfl
  · have hP := (hXP P).mp hP
    show B.countP (fun K => decide (ac n P (K / 2) = P)) = _
    rw [← stay_eq hn hk h hP]
    refine List.countP_congr (fun K hK => ?_)
    simp only [decide_eq_true_eq]
    rw [lst_ac hn hk h hP hK]
    exact eq_comm
