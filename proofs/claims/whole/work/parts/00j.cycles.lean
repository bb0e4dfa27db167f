-- ===== cycles of rows =====
/-- the walk from q: what is passed then, and how long -/
def wk (r : Nat → Nat) : Nat → Nat → Nat → Nat × Nat
  | 0, s, _ => (s, 0)
  | f + 1, s, q => if s.testBit q then (s, 0) else ((wk r f (s ||| 2 ^ q) (r q)).1, (wk r f (s ||| 2 ^ q) (r q)).2 + 1)
/-- the lengths of the walks from 0, 1, .. (0 where all is passed) -/
def lens (r : Nat → Nat) : Nat → Nat × List Nat
  | 0 => (0, [])
  | m + 1 => ((wk r 6 (lens r m).1 m).1, (lens r m).2 ++ [(wk r 6 (lens r m).1 m).2])
def cyl (n : Nat) (r : Nat → Nat) : List Nat := (lens r n).2
def wor (l : Nat) : Nat := match l with
  | 0 => 0
  | 1 => 100000
  | 2 => 10000
  | 3 => 1000
  | 4 => 100
  | 5 => 10
  | _ => 1
def typ (n : Nat) (r : Nat → Nat) : Nat := sm wor (cyl n r)
def ncy (n : Nat) (r : Nat → Nat) : Nat := (cyl n r).countP (fun l => decide (0 < l))
/-- the least that comes of p -/
def rpf (r : Nat → Nat) : Nat → Nat → Nat
  | 0, p => p
  | f + 1, p => min p (rpf r f (r p))
def rp (r : Nat → Nat) (p : Nat) : Nat := rpf r 5 p
/-- all rows of n digits 0 .. n - 1, each once, go through a check -/
def goP (n : Nat) (chk : List Nat → Bool) : Nat → List Nat → Bool
  | 0, ds => chk ds
  | m + 1, ds => (List.range n).all (fun d => ds.contains d || goP n chk m (ds ++ [d]))
theorem goP_ok {n : Nat} {chk : List Nat → Bool} : ∀ (m : Nat) (ds e : List Nat), e.length = m → (ds ++ e).Nodup → (∀ d ∈ e, d < n) → goP n chk m ds = true → chk (ds ++ e) = true
  | 0, ds, e, hl, _, _, h => by
    rw [List.length_eq_zero_iff.mp hl, List.append_nil]
    exact h
  | m + 1, ds, [], hl, _, _, _ => by simp at hl
  | m + 1, ds, d :: e, hl, hn, hd, h => by
    rw [goP, List.all_eq_true] at h
    have h1 := h d (List.mem_range.mpr (hd d List.mem_cons_self))
    have e1 : ds ++ d :: e = (ds ++ [d]) ++ e := by simp
    have h2 : ds.contains d = false := by
      rw [List.nodup_append] at hn
      rw [Bool.eq_false_iff]
      intro hc
      rw [List.contains_iff_mem] at hc
      exact hn.2.2 d hc d List.mem_cons_self rfl
    rw [h2, Bool.false_or] at h1
    rw [e1] at hn ⊢
    exact goP_ok m (ds ++ [d]) e (by simpa using hl) hn (fun x hx => hd x (List.mem_cons_of_mem _ hx)) h1
/-- which types there are, by how many places -/
def tyl (n : Nat) : List Nat := match n with
  | 2 => [200000, 10000]
  | 3 => [300000, 110000, 1000]
  | 4 => [400000, 210000, 20000, 101000, 100]
  | 5 => [500000, 310000, 120000, 201000, 11000, 100100, 10]
  | _ => [600000, 410000, 220000, 30000, 301000, 111000, 2000, 200100, 10100, 100010, 1]
/-- the digits of a number, the last first, together -/
def dsum : Nat → Nat → Nat
  | 0, _ => 0
  | m + 1, v => v % 10 + dsum m (v / 10)
def chk (n : Nat) (ds : List Nat) : Bool :=
  let r : Nat → Nat := fun p => ds.getD p 0
  let t := typ n r
  (List.range n).all (fun p => rp r (r p) == rp r p && rp r (rp r p) == rp r p && wk r 7 (lens r p).1 p == wk r 6 (lens r p).1 p) && (List.range n).countP (fun p => decide (rp r p = p)) == ncy n r && (tyl n).contains t && dsum 6 t == ncy n r && cb 10 (fun i => (cyl n r).countP (fun l => decide (l = i + 1))) 6 == t
set_option maxRecDepth 100000 in
theorem chk_2 : goP 2 (chk 2) 2 [] = true := by decide +kernel
set_option maxRecDepth 100000 in
theorem chk_3 : goP 3 (chk 3) 3 [] = true := by decide +kernel
set_option maxRecDepth 100000 in
theorem chk_4 : goP 4 (chk 4) 4 [] = true := by decide +kernel
set_option maxRecDepth 100000 in
theorem chk_5 : goP 5 (chk 5) 5 [] = true := by decide +kernel
set_option maxRecDepth 100000 in
theorem chk_6 : goP 6 (chk 6) 6 [] = true := by decide +kernel
