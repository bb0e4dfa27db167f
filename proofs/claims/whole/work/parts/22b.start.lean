-- ===== the start of both sides =====
theorem start_RR : ∃ (rk : Nat → Int32) (gr : (Nat → Int32) × (Nat → Int32) × Int32 × Int32 × Int32) (ms : Nat → Int32), f_X3_emptyRacks (fun _ => 0) = some rk ∧ f_X5_begin 4 (fun _ => 0) (fun _ => 0) 0 0 0 = some gr ∧ f_X10_emptiesRacks q_s0 = some ms ∧ RR 0 4 2 q_wts 0 (fun _ => 0) rk 0 (fun _ => 0) (fun _ => 0) (fun _ => 0) (fun _ => 0) 0 (fun _ => 0) (fun _ => 0) 4 2 q_wts 0 (fun _ => 0) rk 0 (fun _ => 0) (fun _ => 0) (fun _ => 0) (fun _ => 0) 0 (fun _ => 0) (fun _ => 0) gr.1 gr.2.1 gr.2.2.1 gr.2.2.2.1 gr.2.2.2.2 (fun _ => 0) (fun _ => 0) 0 0 0 (fun _ => 0) (fun _ => 0) 0 0 0 (fun _ => 0) 0 0 0 (fun _ => 0) 0 0 (fun _ => 0) 0 0 (fun _ => 0) (fun _ => 0) (fun _ => 0) (fun _ => 0) 0 (fun _ => -1) (fun _ => 0) (fun _ _ => 0) 0 ms (fun _ => 0) 0 0 (fun _ => 0) (fun _ => 0) 0 (fun _ => 0) (fun _ => 0) (fun _ => 0) (fun _ => 0) (fun _ => 0) (fun _ => 0) 0 (fun _ => 0) (fun _ => 0) 0 (fun _ => 0) 0 0 0 0 0 (fun _ => 0) (fun _ => 0) (fun _ => 0) (fun _ => 0) q_so (fun _ => 0) (fun _ => 0) := by
  obtain ⟨rk, hrk, e1⟩ := e_emptyRacks (fun _ => 0)
  obtain ⟨ms, hms, e2⟩ := r_emptiesRacks q_s0
  obtain ⟨k', a', f', t', hVS, e3⟩ := e_begin (n := 4) (keys := fun _ => 0) (asF := fun _ => 0) (found := 0) (turns := 0) (pl := 0) (by decide)
  refine ⟨rk, (k', a', f', t', nI 4), ms, e1, e3, e2, RR_mk (n := 4) (k := 2) (m := 0) (gk := fun _ => 0) (w := fun j => j) (B := [one 4]) ⟨⟨by decide, by decide, by decide, by decide, by decide⟩, ⟨rfl, rfl, rfl⟩, ⟨?_, ?_, ?_⟩, fun j hj => ?_, fun g hg => by omega, fun r hr => Or.inl ⟨hrk r hr, ?_⟩, ⟨0, by omega, rfl, ?_, fun j hj => by omega⟩, ⟨0, by omega, rfl, ?_, fun j hj => by omega⟩⟩ ⟨gen_nil 4, hVS, rfl⟩ (Or.inl ⟨rfl, rfl⟩) ⟨by decide, Or.inl rfl⟩ ⟨by decide, Or.inl rfl⟩ ⟨0, by omega, rfl, rfl, fun j hj => by omega⟩ ⟨0, by omega, rfl, rfl, fun j hj => by omega⟩ (fun t ht => ⟨?_, rfl, Or.inl rfl, ⟨0, by omega, rfl⟩, fun _ _ => rfl⟩)⟩
  · rw [hms, if_neg (by omega)]; rfl
  · rw [hms, if_neg (by omega)]; rfl
  · rw [hms, if_neg (by omega)]; rfl
  · show j ≤ 9 ∧ q_wts j = nI j ∧ ms (5 + j) = nI j
    rw [hms, if_neg (by omega)]
    obtain rfl | rfl | rfl | rfl : j = 0 ∨ j = 1 ∨ j = 2 ∨ j = 3 := by omega
    · exact ⟨by decide, rfl, rfl⟩
    · exact ⟨by decide, rfl, rfl⟩
    · exact ⟨by decide, rfl, rfl⟩
    · exact ⟨by decide, rfl, rfl⟩
  · rw [hms, if_pos (by omega)]
  · rw [hms, if_neg (by omega)]; rfl
  · rw [hms, if_neg (by omega)]; rfl
  · show (-1 : Int32) = q_so t
    obtain rfl | rfl | rfl | rfl | rfl | rfl : t = 0 ∨ t = 1 ∨ t = 2 ∨ t = 3 ∨ t = 4 ∨ t = 5 := by omega
    · rfl
    · rfl
    · rfl
    · rfl
    · rfl
    · rfl
