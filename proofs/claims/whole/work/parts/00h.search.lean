-- ===== all moves that come of some =====
/-- one more, if it isn't known; none: no room -/
def adm (B : List Nat) (y : Nat) : Option (List Nat) := if y ∈ B then some B else if B.length = 120 then none else some (B ++ [y])
/-- all that come behind x -/
def gen1 (n x : Nat) : List Nat → List Nat → Option (List Nat)
  | [], B => some B
  | g :: gs, B => (adm B (mu n x g)).bind (gen1 n x gs)
def genL (n : Nat) (gs : List Nat) : Nat → Nat → List Nat → Option (List Nat)
  | 0, _, _ => none
  | fu + 1, k, B => if k < B.length then (gen1 n (B.getD k 0) gs B).bind (genL n gs fu (k + 1)) else some B
def gen (n : Nat) (gs : List Nat) : Option (List Nat) := genL n gs 6000 0 [one n]
/-- what comes of some, told by every set that is closed -/
def Rch (n : Nat) (gs : List Nat) (x : Nat) : Prop := ∀ S : Nat → Prop, S (one n) → (∀ y g, S y → g ∈ gs → S (mu n y g)) → S x
theorem Rch_one (n : Nat) (gs : List Nat) : Rch n gs (one n) := fun _ h _ => h
theorem Rch_step {n : Nat} {gs : List Nat} {y g : Nat} (h : Rch n gs y) (hg : g ∈ gs) : Rch n gs (mu n y g) := fun S h1 h2 => h2 y g (h S h1 h2) hg
theorem Rch_mono {n : Nat} {gs hs : List Nat} {y : Nat} (hsub : ∀ g ∈ gs, g ∈ hs) (h : Rch n gs y) : Rch n hs y := fun S h1 h2 => h S h1 (fun y g hy hg => h2 y g hy (hsub g hg))
theorem Rch_Mv {n : Nat} {gs : List Nat} {y : Nat} (hn : n ≤ 6) (hg : ∀ g ∈ gs, Mv n g) (h : Rch n gs y) : Mv n y := h (Mv n) (Mv.one hn) (fun y g hy hgs => Mv.mu hn hy (hg g hgs))
theorem Rch_mul {n : Nat} {gs : List Nat} {x y : Nat} (hn : n ≤ 6) (hg : ∀ g ∈ gs, Mv n g) (hx : Rch n gs x) (hy : Rch n gs y) : Rch n gs (mu n x y) := by
  refine (hy (fun y => Mv n y ∧ Rch n gs (mu n x y)) ⟨Mv.one hn, by rw [mu_one hn (Rch_Mv hn hg hx)]; exact hx⟩ ?_).2
  rintro y g ⟨h0, h1⟩ h2
  exact ⟨h0.mu hn (hg g h2), by rw [← mu_assoc hn (hg g h2)]; exact Rch_step h1 h2⟩
theorem adm_sub {B C : List Nat} {y : Nat} (h : adm B y = some C) : (∃ D, C = B ++ D) ∧ y ∈ C := by
  unfold adm at h
  split at h
  · cases h; exact ⟨⟨[], (List.append_nil _).symm⟩, ‹_›⟩
  · split at h
    · cases h
    · cases h; exact ⟨⟨_, rfl⟩, by simp⟩
/-- what stands of the moves found so far -/
def Fnd (n : Nat) (gs B : List Nat) : Prop := B.Nodup ∧ (∀ x ∈ B, Rch n gs x) ∧ one n ∈ B ∧ B.length ≤ 120
theorem adm_Fnd {n : Nat} {gs B C : List Nat} {y : Nat} (hF : Fnd n gs B) (hy : Rch n gs y) (h : adm B y = some C) : Fnd n gs C := by
  unfold adm at h
  split at h
  · cases h; exact hF
  · rename_i hm
    split at h
    · cases h
    · rename_i hl
      cases h
      refine ⟨?_, ?_, List.mem_append_left _ hF.2.2.1, ?_⟩
      · rw [List.nodup_append]
        refine ⟨hF.1, by simp, ?_⟩
        intro a ha b hb
        rw [List.mem_singleton] at hb
        rintro rfl
        exact hm (hb ▸ ha)
      · intro x hx
        rcases List.mem_append.mp hx with hx | hx
        · exact hF.2.1 x hx
        · rw [List.mem_singleton] at hx
          rw [hx]; exact hy
      · have := hF.2.2.2
        rw [List.length_append, List.length_singleton]
        omega
theorem gen1_Fnd {n x : Nat} {hs : List Nat} : ∀ {gs B C : List Nat}, (∀ g ∈ gs, g ∈ hs) → Rch n hs x → Fnd n hs B → gen1 n x gs B = some C → Fnd n hs C ∧ (∃ D, C = B ++ D) ∧ ∀ g ∈ gs, mu n x g ∈ C
  | [], B, C, _, _, hF, h => by
    cases h
    exact ⟨hF, ⟨[], (List.append_nil _).symm⟩, fun g hg => by cases hg⟩
  | g :: gs, B, C, hs, hx, hF, h => by
    obtain ⟨B1, h1, h2⟩ := q_ob h
    have hF1 := adm_Fnd hF (Rch_step hx (hs g List.mem_cons_self)) h1
    obtain ⟨⟨D1, e1⟩, hm⟩ := adm_sub h1
    obtain ⟨hF2, ⟨D2, e2⟩, h3⟩ := gen1_Fnd (fun g hg => hs g (List.mem_cons_of_mem _ hg)) hx hF1 h2
    refine ⟨hF2, ⟨D1 ++ D2, by rw [e2, e1, List.append_assoc]⟩, fun g2 hg2 => ?_⟩
    rcases List.mem_cons.mp hg2 with rfl | hg2
    · rw [e2]; exact List.mem_append_left _ hm
    · exact h3 g2 hg2
theorem getD_app {B D : List Nat} {j : Nat} (h : j < B.length) : (B ++ D).getD j 0 = B.getD j 0 := by
  rw [List.getD_eq_getElem?_getD, List.getD_eq_getElem?_getD, List.getElem?_append_left h]
theorem getD_mem {B : List Nat} {j : Nat} (h : j < B.length) : B.getD j 0 ∈ B := by
  rw [List.getD_eq_getElem?_getD, List.getElem?_eq_getElem h]
  exact List.getElem_mem h
theorem mem_getD {B : List Nat} {x : Nat} (h : x ∈ B) : ∃ j, j < B.length ∧ B.getD j 0 = x := by
  obtain ⟨j, hj, e⟩ := List.getElem_of_mem h
  exact ⟨j, hj, by rw [List.getD_eq_getElem?_getD, List.getElem?_eq_getElem hj]; exact e⟩
theorem genL_Fnd {n : Nat} {gs : List Nat} : ∀ {fu k : Nat} {B C : List Nat}, Fnd n gs B → (∀ j, j < k → j < B.length → ∀ g ∈ gs, mu n (B.getD j 0) g ∈ B) → genL n gs fu k B = some C → Fnd n gs C ∧ ∀ x ∈ C, ∀ g ∈ gs, mu n x g ∈ C
  | 0, _, _, _, _, _, h => by cases h
  | fu + 1, k, B, C, hF, hcl, h => by
    unfold genL at h
    split at h
    · rename_i hk
      obtain ⟨B1, h1, h2⟩ := q_ob h
      obtain ⟨hF1, ⟨D, rfl⟩, h3⟩ := gen1_Fnd (fun g hg => hg) (hF.2.1 _ (getD_mem hk)) hF h1
      refine genL_Fnd hF1 ?_ h2
      intro j hj hjl g hg
      have hjB : j < B.length := by omega
      rw [getD_app hjB]
      rcases Nat.lt_succ_iff_lt_or_eq.mp hj with hj | rfl
      · exact List.mem_append_left _ (hcl j hj hjB g hg)
      · exact h3 g hg
    · rename_i hk
      cases h
      refine ⟨hF, fun x hx g hg => ?_⟩
      obtain ⟨j, hj, rfl⟩ := mem_getD hx
      exact hcl j (by omega) hj g hg
theorem Fnd.start {n : Nat} (gs : List Nat) : Fnd n gs [one n] := ⟨by simp, fun x hx => by rw [List.mem_singleton] at hx; rw [hx]; exact Rch_one n gs, by simp, by simp⟩
/-- what is found at the end: all that comes of them, no more -/
theorem gen_spec {n : Nat} {gs B : List Nat} (h : gen n gs = some B) : Fnd n gs B ∧ ∀ x, x ∈ B ↔ Rch n gs x := by
  obtain ⟨h1, h2⟩ := genL_Fnd (Fnd.start gs) (fun j hj => by omega) h
  exact ⟨h1, fun x => ⟨h1.2.1 x, fun hx => hx (· ∈ B) h1.2.2.1 (fun y g hy hg => h2 y hy g hg)⟩⟩
theorem gen_Gp {n : Nat} {gs B : List Nat} (hn : n ≤ 6) (hg : ∀ g ∈ gs, Mv n g) (h : gen n gs = some B) : Gp n B := by
  obtain ⟨h1, h2⟩ := gen_spec h
  exact ⟨h1.1, fun K hK => Rch_Mv hn hg (h1.2.1 K hK), h1.2.2.1, fun a ha b hb => (h2 _).mpr (Rch_mul hn hg ((h2 a).mp ha) ((h2 b).mp hb))⟩
-- room: what stays within a row of 120 is never too many
theorem adm_ok {n : Nat} {gs B T : List Nat} {y : Nat} (hT : T.length ≤ 120) (hR : ∀ x, Rch n gs x → x ∈ T) (hF : Fnd n gs B) (hy : Rch n gs y) : ∃ C, adm B y = some C := by
  unfold adm
  split
  · exact ⟨_, rfl⟩
  · rename_i hm
    split
    · rename_i hl
      exfalso
      have := List.Nodup.length_le_of_subset (l₁ := y :: B) (l₂ := T) (List.nodup_cons.mpr ⟨hm, hF.1⟩) (by
        intro x hx
        rcases List.mem_cons.mp hx with rfl | hx
        · exact hR _ hy
        · exact hR _ (hF.2.1 x hx))
      rw [List.length_cons] at this
      omega
    · exact ⟨_, rfl⟩
theorem gen1_ok {n x : Nat} {hs T : List Nat} (hT : T.length ≤ 120) (hR : ∀ x, Rch n hs x → x ∈ T) : ∀ {gs B : List Nat}, (∀ g ∈ gs, g ∈ hs) → Rch n hs x → Fnd n hs B → ∃ C, gen1 n x gs B = some C
  | [], B, _, _, _ => ⟨B, rfl⟩
  | g :: gs, B, hsub, hx, hF => by
    have hy := Rch_step hx (hsub g List.mem_cons_self)
    obtain ⟨B1, h1⟩ := adm_ok hT hR hF hy
    obtain ⟨C, h2⟩ := gen1_ok hT hR (fun g hg => hsub g (List.mem_cons_of_mem _ hg)) hx (adm_Fnd hF hy h1)
    exact ⟨C, by rw [gen1, h1]; exact h2⟩
theorem genL_ok {n : Nat} {gs T : List Nat} (hT : T.length ≤ 120) (hR : ∀ x, Rch n gs x → x ∈ T) : ∀ {fu k : Nat} {B : List Nat}, 120 < fu + k → Fnd n gs B → k ≤ B.length → ∃ C, genL n gs fu k B = some C
  | 0, k, B, hfu, hF, hk => by
    have := hF.2.2.2
    omega
  | fu + 1, k, B, hfu, hF, hk => by
    unfold genL
    split
    · rename_i hk2
      obtain ⟨C, h1⟩ := gen1_ok hT hR (fun g hg => hg) (hF.2.1 _ (getD_mem hk2)) hF
      obtain ⟨hF1, ⟨D, rfl⟩, -⟩ := gen1_Fnd (fun g hg => hg) (hF.2.1 _ (getD_mem hk2)) hF h1
      rw [h1]
      exact genL_ok hT hR (by omega) hF1 (by rw [List.length_append]; omega)
    · exact ⟨_, rfl⟩
theorem gen_ok {n : Nat} {gs T : List Nat} (hT : T.length ≤ 120) (hR : ∀ x, Rch n gs x → x ∈ T) : ∃ C, gen n gs = some C := genL_ok hT hR (by decide) (Fnd.start gs) (by simp)
/-- fewer generators: no trouble -/
theorem gen_sub {n : Nat} {gs hs B : List Nat} (hsub : ∀ g ∈ gs, g ∈ hs) (h : gen n hs = some B) : ∃ C, gen n gs = some C := by
  obtain ⟨h1, h2⟩ := gen_spec h
  exact gen_ok h1.2.2.2 (fun x hx => (h2 x).mpr (Rch_mono hsub hx))
-- the rows alone
/-- generators of the same rows, with other hands: the same rows come of them -/
theorem Rch_rows {n : Nat} {gs hs : List Nat} (hsub : ∀ g ∈ gs, ∃ h ∈ hs, h / 2 = g / 2) {x : Nat} (hx : Rch n gs x) : ∃ y, Rch n hs y ∧ y / 2 = x / 2 := by
  refine hx (fun x => ∃ y, Rch n hs y ∧ y / 2 = x / 2) ⟨one n, Rch_one n hs, rfl⟩ ?_
  rintro y g ⟨z, hz, e⟩ hg
  obtain ⟨h, hh, e2⟩ := hsub g hg
  exact ⟨mu n z h, Rch_step hz hh, by rw [mu_div, mu_div, e, e2]⟩
