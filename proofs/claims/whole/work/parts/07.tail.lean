-- ===== worlds with an open tail; worlds in another order; contracts whose world has a new cell =====
theorem IN.sub {A : Nat → Prop} {G : GX} {w w' : va_W} {s : State} {H : Heap} {locs : List Loc} (hI : IN A G w s H locs) (ps : List Nat) (hq : ps.map (fun i => w[i]?) = w'.map some) (hn : va_nd ps = true) : IN A G w' s H locs := ⟨q_Psub hI.1 ps hq, hI.2.1.sub ps hn hq, hI.2.2⟩
theorem q_appL {w0 wo : va_W} {k : Nat} {q : Nat × va_E} (h : w0[k]? = some q) : (w0 ++ wo)[k]? = some q := by
  rw [List.getElem?_append_left (List.getElem?_eq_some_iff.mp h).1]; exact h
theorem q_appR {w0 wo : va_W} {k : Nat} {q : Nat × va_E} (h : wo[k]? = some q) : (w0 ++ wo)[w0.length + k]? = some q := by
  rw [List.getElem?_append_right (Nat.le_add_right _ _), Nat.add_sub_cancel_left]; exact h
theorem q_at {is : List Nat} {ws w : va_W} (hs : is.map (fun i => ws[i]?) = w.map some) {k : Nat} {q : Nat × va_E} (hq : w[k]? = some q) : ∃ i, is[k]? = some i ∧ ws[i]? = some q := by
  have h1 : (is.map (fun i => ws[i]?))[k]? = some (some q) := by rw [hs, List.getElem?_map, hq]; rfl
  rw [List.getElem?_map] at h1
  cases hi : is[k]? with
  | none => rw [hi] at h1; cases h1
  | some i => rw [hi] at h1; exact ⟨i, rfl, Option.some.inj h1⟩
/-- the frame rule over an open tail -/
theorem q_joinT {A : Nat → Prop} {G : GX} {w0 wo wc wr w1 w2 : va_W} {s : State} {H H1 : Heap} {locs locs1 : List Loc} (E : EX G A s) (hI : IN A G (w0 ++ wo) s H locs) {isC isR ps : List Nat} (hC : isC.map (fun i => w0[i]?) = wc.map some) (hR : isR.map (fun i => w0[i]?) = wr.map some) (hn : va_nd isR = true) (hdis : ∀ i ∈ isR, i ∉ isC) (hq : ps.map (fun i => (wr ++ w1)[i]?) = w2.map some) (hnq : va_nd ps = true)
    (hp : va_P G.1 vwCl w1 H1) (hd : va_D (va_A wc H.size) w1) (hk : ∀ q : Nat, q < H.size → ¬ va_A wc H.size q → H1[q]? = H[q]?) (hS : va_S A s.heap H1 locs1) : IN A G (w2 ++ wo) s H1 locs1 := by
  have hP0 : va_P G.1 vwCl w0 H := fun k q h => hI.1 k q (q_appL h)
  have hD0 : va_D A w0 := ⟨fun i j p q h1 h2 e => hI.2.1.1 i j p q (q_appL h1) (q_appL h2) e, fun k q h => hI.2.1.2 k q (q_appL h)⟩
  have hDo : va_D A wo := ⟨fun i j p q h1 h2 e => by have := hI.2.1.1 _ _ p q (q_appR (w0 := w0) h1) (q_appR (w0 := w0) h2) e; omega, fun k q h => hI.2.1.2 _ q (q_appR (w0 := w0) h)⟩
  have hA := va_free (wc := wc) hD0 hI.2.2 E.2.1 isC hC
  obtain ⟨hP, hD⟩ := va_join (wr := wr) (w1 := w1) hP0 hD0 isC isR hC hR hn hdis hk hA hp hd
  have out : ∀ (k : Nat) (q : Nat × va_E), wo[k]? = some q → q.1 < H.size ∧ ¬ va_A wc H.size q.1 := by
    intro k q hq2
    have hl := (hI.1 _ q (q_appR (w0 := w0) hq2)).lt
    refine ⟨hl, ?_⟩
    rintro (⟨k2, e2, h⟩ | h)
    · obtain ⟨i, -, hi⟩ := q_at hC h
      have := hI.2.1.1 i _ (q.1, e2) q (q_appL hi) (q_appR (w0 := w0) hq2) rfl
      have := (List.getElem?_eq_some_iff.mp hi).1
      omega
    · omega
  refine ⟨va_P.app (q_Psub hP ps hq) (fun k q hq2 => ?_), va_D.app (hD.sub ps hnq hq) hDo ?_, hS⟩
  · obtain ⟨g1, g2⟩ := out k q hq2
    exact (hI.1 _ q (q_appR (w0 := w0) hq2)).kept (hk q.1 g1 g2)
  · intro i j x y hx hy hxy
    obtain ⟨i2, -, hi2⟩ := q_at hq hx
    by_cases hlt : i2 < wr.length
    · rw [List.getElem?_append_left hlt] at hi2
      obtain ⟨i3, -, hi3⟩ := q_at hR hi2
      have := hI.2.1.1 i3 _ x y (q_appL hi3) (q_appR (w0 := w0) hy) hxy
      have := (List.getElem?_eq_some_iff.mp hi3).1
      omega
    · rw [List.getElem?_append_right (Nat.not_lt.mp hlt)] at hi2
      exact (out j y hy).2 (by rw [← hxy]; exact hd.2 _ x hi2)
def QE (G : GX) (A : Nat → Prop) (w' : Nat → va_W) (v : Option Value) : Array Value → State → Outcome → State → Prop := fun _ st oc t => (∃ q : Nat, oc = .returned v ∧ va_P G.1 vwCl (w' q) t.heap ∧ va_D A (w' q)) ∧ va_F A st t
def ME (l : Launch) (y : MethodName) (cc : ByteArray) (nL : Nat) (rt : Option FieldType) (rm : Room) (G : GX) (w : va_W) (av : List Value) (w' : Nat → va_W) (v : Option Value) (mc ms : Nat) : Prop :=
  ∀ sz : Nat, Met l y (.code y cc nL rt :: qt) rm (PR G w av sz) (QE G (va_A w sz) w' v) mc ms (va_A w sz)
theorem ME.of {l : Launch} {y : MethodName} {cc : ByteArray} {nL : Nat} {rt : Option FieldType} {rm : Room} {G : GX} {w : va_W} {av : List Value} {w' : Nat → va_W} {v : Option Value} {mc ms : Nat}
    (hy : plainFor y = true) (hn : (lg_sl av).length ≤ nL)
    (body : ∀ (p : Program) (e : Env) (s : State) (m : MethodId) (below : List Frame) (meth : Method) (c : Code) (A : Nat → Prop), CX y.cls cc nL rt p s m av.toArray meth c → EX G A s → IN A G w s s.heap [] → ∀ ls : Array Slot, lv_has ls nL (lv_args 0 av) → W p l e rm s m av.toArray below meth c s.heap [] 0 0 (MQ below (QE G A w' v) av.toArray s mc ms A) (F0 m 0 ls [])) : ME l y cc nL rt rm G w av w' v mc ms := by
  intro sz
  refine q_ofW (cc := cc) (maxL := nL) (ret := rt) hy rfl ?_
  intro p e s m args below meth c s₁ B hml hv
  obtain ⟨rfl, hsz, hP, hD0, hK, hST⟩ := hv
  have hts := atoms_spec (ws := .code y cc nL rt :: qt) B.pre
  have hown : s.vm.findClass y.cls = some m.cls := findClass_of_methodNamed B.named
  subst hsz
  have hl := lv_entry av (n := nL) hn
  rw [lg_entry_eq]
  generalize (lg_sl av ++ List.replicate (nL - (lg_sl av).length) Slot.unset).toArray = ls at hl ⊢
  exact body p e s m below meth c (va_A w s.heap.size) ⟨B.exec, B.bytes, hml, hown, fun x h => hts x (List.mem_cons_of_mem _ h), B.returns, B.notSynchronized⟩ ⟨hK, fun q h => Or.inr h, hST⟩ ⟨hP, hD0.self, va_S.rf⟩ ls hl
/-- a world in another order -/
theorem q_Aperm {w w1 : va_W} {ps qs : List Nat} (h1 : ps.map (fun i => w[i]?) = w1.map some) (h2 : qs.map (fun i => w1[i]?) = w.map some) (sz : Nat) : va_A w sz = va_A w1 sz := by
  funext q
  apply propext
  constructor
  · rintro (⟨k, e, h⟩ | h)
    · obtain ⟨i, -, hi⟩ := q_at h2 h
      exact Or.inl ⟨i, e, hi⟩
    · exact Or.inr h
  · rintro (⟨k, e, h⟩ | h)
    · obtain ⟨i, -, hi⟩ := q_at h1 h
      exact Or.inl ⟨i, e, hi⟩
    · exact Or.inr h
section TAIL
variable {p : Program} {l : Launch} {e : Env} {R : Room} {s : State} {m : MethodId} {args : Array Value} {below : List Frame} {meth : Method} {c : Code} {H : Heap} {locs : List Loc} {cells slots : Nat} {Q : State → Prop}
variable {own : String} {cc : ByteArray} {nL : Nat} {rt : Option FieldType} {G : GX} {A : Nat → Prop} {w w0 wo wc wr w1 w2 : va_W} {pc : Nat} {ls : Array Slot} {rest st0 : List Value} {a : Nat} {mc ms : Nat}
variable {y : MethodName} {cy : ByteArray} {ny index n : Nat} {ry : Option FieldType} {rm : Room} {av : List Value} {v : Option Value} {st1 : List Value}
-- ends
theorem x_retE {w' : Nat → va_W} {q : Nat} {v : Option Value} (hI : IN A G (w' q) s H locs) : ∀ t : State, t.heap = H → QE G A w' v args s (.returned v) t := fun t ht => ⟨⟨q, rfl, by rw [ht]; exact hI.1, hI.2.1⟩, hI.2.2.F ht⟩
theorem x_iretE {w' : Nat → va_W} (q : Nat) {r : Int32} (X : CX own cc nL (some .int) p s m args meth c) (hI : IN A G (w' q) s H locs) (hdg : decode cc pc = .ok (.ireturn, 1)) : W p l e R s m args below meth c H locs cells slots (MQ below (QE G A w' (some (.int r))) args s cells slots A) (F0 m pc ls [.int r]) := by
  obtain ⟨hx, hb, -, -, -, hr, hlocks⟩ := X
  exact W.iret hx hb hr (fun t ht _ => x_retE hI t ht) hI.2.2.2.2 hdg hlocks
theorem x_vretE {w' : Nat → va_W} (q : Nat) (X : CX own cc nL none p s m args meth c) (hI : IN A G (w' q) s H locs) (hdg : decode cc pc = .ok (.return_, 1)) : W p l e R s m args below meth c H locs cells slots (MQ below (QE G A w' none) args s cells slots A) (F0 m pc ls []) := by
  obtain ⟨hx, hb, -, -, -, hr, hlocks⟩ := X
  exact W.vret hx hb hr (fun t ht _ => x_retE hI t ht) hI.2.2.2.2 hdg hlocks
theorem x_aretE {w' : Nat → va_W} (q : Nat) {r : Nat} {C : String} (X : CX own cc nL (some (.object C)) p s m args meth c) (hI : IN A G (w' q) s H locs) (hdg : decode cc pc = .ok (.areturn, 1)) : W p l e R s m args below meth c H locs cells slots (MQ below (QE G A w' (some (.ref r))) args s cells slots A) (F0 m pc ls [.ref r]) := by
  obtain ⟨hx, hb, -, -, -, hr, hlocks⟩ := X
  exact W.aret hx hb hr (Or.inl ⟨_, rfl⟩) (Or.inr ⟨_, rfl⟩) (fun t ht _ => x_retE hI t ht) hI.2.2.2.2 hdg hlocks
/-- a new row of ints -/
theorem x_newI (X : CX own cc nL rt p s m args meth c) (E : EX G A s) (hI : IN A G w s H locs) (harr : Cond.arrayClass .int ∈ qt) {n : Int32} {N : Nat} (hn : ¬ n < 0) (hN : n.toNatClampNeg = N) (hbytes : N * 4 ≤ 536870912) (hcells : cells + 1 ≤ R.cells) (hslots : slots + N ≤ R.slots) (hdg : decode cc pc = .ok (.newarray .int, 2))
    (kk : ∀ (q : Nat) (H : Heap), IN A G (w ++ [(q, .inl (G.2.1.1, N, .inl (fun _ => 0)))]) s H locs → W p l e R s m args below meth c H locs (cells + 1) (slots + N) Q (F0 m (pc + 2) ls (.ref q :: rest))) : W p l e R s m args below meth c H locs cells slots Q (F0 m pc ls (.int n :: rest)) := by
  refine va_newa (atype := .int) (ty := .int) (D := G.1) (a0 := (N, .inl (fun _ => 0))) X.1 X.2.1 (X.2.2.2.2.1 _ harr) rfl E.1 hI.1 hI.2.1 hI.2.2 E.2.1 (fun _ => rfl) hn hN hbytes hcells hslots hdg (fun q cA H1 hK hP hD hS => ?_)
  have e1 : s.vm.findClass ("[" ++ FieldType.int.toString) = some cA := (hK.2 4 (cA, .int) rfl).2
  have e2 : s.vm.findClass ("[" ++ FieldType.int.toString) = some G.2.1.1 := (E.1.2 0 (G.2.1.1, .int) rfl).2
  have e3 : cA = G.2.1.1 := Option.some.inj (e1.symm.trans e2)
  subst e3
  exact kk q H1 ⟨hP, hD, hS⟩
theorem x_backE {w1 : Nat → va_W} {av : Array Value} (hr : va_Run p l e R s m args below meth c H locs cells slots mc ms (F0 m pc ls st0) rest (QE G (va_A wc H.size) w1 v av) (va_A wc H.size)) (hI : IN A G w s H locs) (hA : ∀ q : Nat, va_A wc H.size q → A q)
    (kk : ∀ (q : Nat) (H1 : Heap) (locs1 : List Loc), va_P G.1 vwCl (w1 q) H1 → va_D (va_A wc H.size) (w1 q) → H.size ≤ H1.size → (∀ q : Nat, q < H.size → ¬ va_A wc H.size q → H1[q]? = H[q]?) → va_S A s.heap H1 locs1 → W p l e R s m args below meth c H1 locs1 (cells + mc) (slots + ms) Q (F0 m (pc + 3) ls (v.toList ++ rest))) : W p l e R s m args below meth c H locs cells slots Q (F0 m pc ls st0) := by
  intro T hT X
  obtain ⟨v', st₀, t, T', L, h0, X', hL, e1, e2, ⟨⟨q, hv, hp, hd⟩, hz, hk⟩, st⟩ := hr T hT X
  cases hv
  rw [h0] at hz hk
  obtain ⟨t2, a1, b1⟩ := kk q T'.heap (locs ++ L) (by rw [e1]; exact hp) hd (by rw [e1]; exact hz) (fun q h1 h2 => by rw [e1]; exact hk q h1 h2)
    ⟨Nat.le_trans hI.2.2.1 (by rw [e1]; exact hz), fun q h1 h2 => by rw [e1, hk q (Nat.lt_of_lt_of_le h1 hI.2.2.1) (fun z => h2 (hA q z))]; exact hI.2.2.2.1 q h1 h2, fun q hq => by
      rcases List.mem_append.mp hq with h | h
      · exact hI.2.2.2.2 q h
      · exact hA _ (hL q h)⟩ T' rfl X'
  exact ⟨t2, st t2 a1, b1⟩
theorem x_runVE (X : CX own cc nL rt p s m args meth c) (E : EX G A s) (hI : IN A G w s H locs) {C : String} {w1 : Nat → va_W} (hM : ME l y cy ny ry rm G wc (.ref a :: av) w1 v mc ms) (hk : GoodIn qt (wsV own index C y (.code y cy ny ry :: qt)))
    (hd : y.cls = C ∧ y.cls ≠ "java/lang/invoke/MethodHandle" ∧ y.cls ≠ "java/lang/invoke/VarHandle" ∧ (parseMethodDescriptor y.desc).map (fun d => d.parameters.length) = some n) (hrm : rm.cells = mc ∧ rm.slots = ms) (hR : rm.frames + 1 ≤ R.frames ∧ 8 + (ny + 11) + rm.locals ≤ R.locals)
    {ci q0 : Nat} {q : vw_C} {fs : List Value} (hc : vwCl[ci]? = some q) (hC : q.1 = C) (he : wc[q0]? = some (a, .inr (ci, fs)))
    (hPc : va_P G.1 vwCl wc H) (hDc : va_D (fun _ => True) wc) (hA : ∀ q : Nat, va_A wc H.size q → A q) (hav : av.length = n) (hls : ls.size = nL) (hst : st0 = av.reverse ++ .ref a :: rest) (hrest : (rest.map fun v => v.category).sum ≤ 8) (hdg : decode cc pc = .ok (.invokevirtual index, 3)) (hf : cells + mc ≤ R.cells ∧ slots + ms ≤ R.slots) :
    va_Run p l e R s m args below meth c H locs cells slots mc ms (F0 m pc ls st0) rest (QE G (va_A wc H.size) w1 v (Value.ref a :: av).toArray) (va_A wc H.size) := by
  subst hC
  exact va_runV (As := av) (n := n) (own := own) (index := index) (bytes := cy) (maxL := ny) (ret := ry) (nL := nL) ⟨X.1, X.2.1, X.2.2.1, X.2.2.2.1, X.2.2.2.2.1⟩ (hM H.size) (cwV n X.2.2.2.2.1 hk rfl hrm.1 hrm.2 hd hR) ⟨pr_blind, va_recv E.1 hPc hc he, pr_of E hI hPc hDc hA⟩ rfl hav hls hst (lv_room hrest) hdg hf
/-- the same world, with a new cell behind it -/
theorem x_cVsE (X : CX own cc nL rt p s m args meth c) (E : EX G A s) (hI : IN A G w s H locs) {C : String} {w1 : Nat → va_W} (hM : ME l y cy ny ry rm G w (.ref a :: av) w1 v mc ms) (hk : GoodIn qt (wsV own index C y (.code y cy ny ry :: qt)))
    (hd : y.cls = C ∧ y.cls ≠ "java/lang/invoke/MethodHandle" ∧ y.cls ≠ "java/lang/invoke/VarHandle" ∧ (parseMethodDescriptor y.desc).map (fun d => d.parameters.length) = some n) (hrm : rm.cells = mc ∧ rm.slots = ms) (hR : rm.frames + 1 ≤ R.frames ∧ 8 + (ny + 11) + rm.locals ≤ R.locals)
    {ci : Nat} (q0 : Nat) {q : vw_C} {fs : List Value} (hc : vwCl[ci]? = some q) (hC : q.1 = C) (he : w[q0]? = some (a, .inr (ci, fs)))
    (hav : av.length = n) (hls : ls.size = nL) (hst : st0 = av.reverse ++ .ref a :: rest) (hrest : (rest.map fun v => v.category).sum ≤ 8) (hdg : decode cc pc = .ok (.invokevirtual index, 3)) (hf : cells + mc ≤ R.cells ∧ slots + ms ≤ R.slots) (h1 : v.toList ++ rest = st1)
    (kk : ∀ (q : Nat) (H : Heap) (locs : List Loc), IN A G (w1 q) s H locs → W p l e R s m args below meth c H locs (cells + mc) (slots + ms) Q (F0 m (pc + 3) ls st1)) : W p l e R s m args below meth c H locs cells slots Q (F0 m pc ls st0) := by
  subst h1
  have hA := sub_A (wc := w) E hI (fun k q h => ⟨k, h⟩)
  exact x_backE (x_runVE X E hI hM hk hd hrm hR hc hC he hI.1 (hI.2.1.weaken (fun _ _ _ _ => trivial)) hA hav hls hst hrest hdg hf) hI hA (fun q H1 locs1 hp hd _ _ hS => kk q H1 locs1 ⟨hp, hd.weaken (fun k q _ h => hA q.1 h), hS⟩)
/-- a part of a world with an open tail -/
theorem x_cVt (X : CX own cc nL rt p s m args meth c) (E : EX G A s) (hI : IN A G (w0 ++ wo) s H locs) {C : String} (hM : MX l y cy ny ry rm G wc (.ref a :: av) w1 v mc ms) (hk : GoodIn qt (wsV own index C y (.code y cy ny ry :: qt)))
    (hd : y.cls = C ∧ y.cls ≠ "java/lang/invoke/MethodHandle" ∧ y.cls ≠ "java/lang/invoke/VarHandle" ∧ (parseMethodDescriptor y.desc).map (fun d => d.parameters.length) = some n) (hrm : rm.cells = mc ∧ rm.slots = ms) (hR : rm.frames + 1 ≤ R.frames ∧ 8 + (ny + 11) + rm.locals ≤ R.locals)
    {isC isR ps : List Nat} (hpt : PT w0 wc isC isR) (hpq : PQ w0 w1 w2 isR ps)
    {ci : Nat} (q0 : Nat) {q : vw_C} {fs : List Value} (hc : vwCl[ci]? = some q) (hC : q.1 = C) (he : wc[q0]? = some (a, .inr (ci, fs)))
    (hav : av.length = n) (hls : ls.size = nL) (hst : st0 = av.reverse ++ .ref a :: rest) (hrest : (rest.map fun v => v.category).sum ≤ 8) (hdg : decode cc pc = .ok (.invokevirtual index, 3)) (hf : cells + mc ≤ R.cells ∧ slots + ms ≤ R.slots) (h1 : v.toList ++ rest = st1)
    (kk : ∀ (H : Heap) (locs : List Loc), IN A G (w2 ++ wo) s H locs → W p l e R s m args below meth c H locs (cells + mc) (slots + ms) Q (F0 m (pc + 3) ls st1)) : W p l e R s m args below meth c H locs cells slots Q (F0 m pc ls st0) := by
  subst h1
  obtain ⟨hC1, hR1, hn1, hn2, hdis⟩ := hpt
  have hP0 : va_P G.1 vwCl w0 H := fun k q h => hI.1 k q (q_appL h)
  have hD0 : va_D A w0 := ⟨fun i j p q h1 h2 e => hI.2.1.1 i j p q (q_appL h1) (q_appL h2) e, fun k q h => hI.2.1.2 k q (q_appL h)⟩
  have hA := va_free (wc := wc) hD0 hI.2.2 E.2.1 isC hC1
  exact x_back (x_runV X E hI hM hk hd hrm hR hc hC he (q_Psub hP0 isC hC1) ((hD0.sub isC hn2 hC1).weaken (fun _ _ _ _ => trivial)) hA hav hls hst hrest hdg hf) hI hA (fun H1 locs1 hp hd _ hk hS => kk H1 locs1 (q_joinT E hI hC1 hR1 hn1 hdis hpq.1 hpq.2 hp hd hk hS))
theorem x_cVtE (X : CX own cc nL rt p s m args meth c) (E : EX G A s) (hI : IN A G (w0 ++ wo) s H locs) {C : String} {w1 w2 : Nat → va_W} (hM : ME l y cy ny ry rm G wc (.ref a :: av) w1 v mc ms) (hk : GoodIn qt (wsV own index C y (.code y cy ny ry :: qt)))
    (hd : y.cls = C ∧ y.cls ≠ "java/lang/invoke/MethodHandle" ∧ y.cls ≠ "java/lang/invoke/VarHandle" ∧ (parseMethodDescriptor y.desc).map (fun d => d.parameters.length) = some n) (hrm : rm.cells = mc ∧ rm.slots = ms) (hR : rm.frames + 1 ≤ R.frames ∧ 8 + (ny + 11) + rm.locals ≤ R.locals)
    {isC isR ps : List Nat} (hpt : PT w0 wc isC isR) (hpq : ∀ q : Nat, PQ w0 (w1 q) (w2 q) isR ps)
    {ci : Nat} (q0 : Nat) {q : vw_C} {fs : List Value} (hc : vwCl[ci]? = some q) (hC : q.1 = C) (he : wc[q0]? = some (a, .inr (ci, fs)))
    (hav : av.length = n) (hls : ls.size = nL) (hst : st0 = av.reverse ++ .ref a :: rest) (hrest : (rest.map fun v => v.category).sum ≤ 8) (hdg : decode cc pc = .ok (.invokevirtual index, 3)) (hf : cells + mc ≤ R.cells ∧ slots + ms ≤ R.slots) (h1 : v.toList ++ rest = st1)
    (kk : ∀ (q : Nat) (H : Heap) (locs : List Loc), IN A G (w2 q ++ wo) s H locs → W p l e R s m args below meth c H locs (cells + mc) (slots + ms) Q (F0 m (pc + 3) ls st1)) : W p l e R s m args below meth c H locs cells slots Q (F0 m pc ls st0) := by
  subst h1
  obtain ⟨hC1, hR1, hn1, hn2, hdis⟩ := hpt
  have hP0 : va_P G.1 vwCl w0 H := fun k q h => hI.1 k q (q_appL h)
  have hD0 : va_D A w0 := ⟨fun i j p q h1 h2 e => hI.2.1.1 i j p q (q_appL h1) (q_appL h2) e, fun k q h => hI.2.1.2 k q (q_appL h)⟩
  have hA := va_free (wc := wc) hD0 hI.2.2 E.2.1 isC hC1
  exact x_backE (x_runVE X E hI hM hk hd hrm hR hc hC he (q_Psub hP0 isC hC1) ((hD0.sub isC hn2 hC1).weaken (fun _ _ _ _ => trivial)) hA hav hls hst hrest hdg hf) hI hA (fun q H1 locs1 hp hd _ hk hS => kk q H1 locs1 (q_joinT E hI hC1 hR1 hn1 hdis (hpq q).1 (hpq q).2 hp hd hk hS))
/-- reading a row of references -/
theorem x_aald (X : CX own cc nL rt p s m args meth c) (E : EX G A s) (hI : IN A G w s H locs) (q0 : Nat) {n : Nat} {f : Nat → Option Nat} (ha : w[q0]? = some (a, .inl (G.2.1.2.2.2, n, .inr (.inr (.inr (.inr f)))))) {i : Int32} {v : Nat} (h : q_rd f n i = some (some v)) (hdg : decode cc pc = .ok (.aaload, 1))
    (kk : W p l e R s m args below meth c H locs cells slots Q (F0 m (pc + 1) ls (.ref v :: rest))) : W p l e R s m args below meth c H locs cells slots Q (F0 m pc ls (.int i :: .ref a :: rest)) := by
  obtain ⟨h1, h2⟩ := q_rd_i h
  refine va_aldq X.1 X.2.1 E.1 hI.1 q0 3 (C := "PaintFrames$Tape") ha rfl h1 hdg ?_
  rw [h2]
  exact kk
end TAIL
/-- a world in another order, ahead of an open tail -/
theorem IN.subT {A : Nat → Prop} {G : GX} {w0 w2 wo : va_W} {s : State} {H : Heap} {locs : List Loc} (hI : IN A G (w0 ++ wo) s H locs) (ps : List Nat) (hq : ps.map (fun i => w0[i]?) = w2.map some) (hn : va_nd ps = true) : IN A G (w2 ++ wo) s H locs := by
  have hP0 : va_P G.1 vwCl w0 H := fun k q h => hI.1 k q (q_appL h)
  have hD0 : va_D A w0 := ⟨fun i j p q h1 h2 e => hI.2.1.1 i j p q (q_appL h1) (q_appL h2) e, fun k q h => hI.2.1.2 k q (q_appL h)⟩
  have hDo : va_D A wo := ⟨fun i j p q h1 h2 e => by have := hI.2.1.1 _ _ p q (q_appR (w0 := w0) h1) (q_appR (w0 := w0) h2) e; omega, fun k q h => hI.2.1.2 _ q (q_appR (w0 := w0) h)⟩
  refine ⟨va_P.app (q_Psub hP0 ps hq) (fun k q h => hI.1 _ q (q_appR (w0 := w0) h)), va_D.app (hD0.sub ps hn hq) hDo ?_, hI.2.2⟩
  intro i j x y hx hy hxy
  obtain ⟨i2, -, hi2⟩ := q_at hq hx
  have := hI.2.1.1 i2 _ x y (q_appL hi2) (q_appR (w0 := w0) hy) hxy
  have := (List.getElem?_eq_some_iff.mp hi2).1
  omega
