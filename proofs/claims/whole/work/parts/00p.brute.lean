-- ===== the next painting; the types of rows: looked at one by one =====
def nxt (n k : Nat) : Bool := (List.range (k ^ n)).all (fun i => decide (f_X2_nextPainting (nI (pt n k i)) (nI n) (nI k) = some (nI (pt n k (i + 1)))))
def cyc (n : Nat) (ds : List Nat) : Bool := decide (f_X2_cycleType (nI (pak n (fun p => ds.getD p 0))) (nI n) = some (nI (typ n (fun p => ds.getD p 0))))
set_option maxRecDepth 100000 in
theorem nxt_2 : ∀ k, k < 5 → 1 ≤ k → nxt 2 k = true := by decide +kernel
set_option maxRecDepth 100000 in
theorem nxt_3 : ∀ k, k < 5 → 1 ≤ k → nxt 3 k = true := by decide +kernel
set_option maxRecDepth 100000 in
theorem nxt_4 : ∀ k, k < 5 → 1 ≤ k → nxt 4 k = true := by decide +kernel
set_option maxRecDepth 100000 in
theorem cyc_2 : goP 2 (cyc 2) 2 [] = true := by decide +kernel
set_option maxRecDepth 100000 in
theorem cyc_3 : goP 3 (cyc 3) 3 [] = true := by decide +kernel
set_option maxRecDepth 100000 in
theorem cyc_4 : goP 4 (cyc 4) 4 [] = true := by decide +kernel
set_option maxRecDepth 100000 in
theorem cyc_5 : goP 5 (cyc 5) 5 [] = true := by decide +kernel
set_option maxRecDepth 100000 in
theorem cyc_6 : goP 6 (cyc 6) 6 [] = true := by decide +kernel
set_option maxRecDepth 100000 in
theorem nxt_5 : ∀ k, k < 5 → 1 ≤ k → nxt 5 k = true := by decide +kernel
set_option maxRecDepth 100000 in
theorem nxt_6 : ∀ k, k < 5 → 1 ≤ k → nxt 6 k = true := by decide +kernel
