/-! THE CLAIM OUT OF ONE WALK OF THE LAW'S BODY. Your part is whole_start (and what it stands on); all else here is the same for every law, but numbers. -/
def R_law : String := "PaintFramesLaw"
def lw_P (b : Addr) (xs : List Int32) (args : Array Value) (s : State) : Prop := args = #[.ref b] ∧ s.IntsAt b xs ∧ xs.length ≤ 3072 ∧ (Jvm.Cond.and given_1 narrow_1).before args s = true
/-- what a walk over the start with the record d0 says of its end, said of the start itself -/
theorem lw_closed {s t : State} {o : Outcome} {d0 : Drawn} {L : List Loc} {k n : Nat} (hd0 : s.drawn.sameBut d0 lw_cs) (hv : ∃ v, o = .returned v) (hW : (s.setDrawn d0).WarmedH t.vm) (hs : (s.setDrawn d0).sameButNew ({ t with vm := s.vm } : State) L k n) : State.butDraws s t lw_cs (fun t1 => Framed s o t1 L k n) := by
  have h2 : t.drawn = d0 := congrArg State.drawn hs.1
  refine ⟨⟨hv, hW, State.sameButNew.setDrawn hs s.drawn⟩, ?_, by decide⟩
  rw [h2]
  exact hd0
def lw_Q (_ : Array Value) (s : State) (o : Outcome) (t : State) : Prop := o = .returned (some (.int 1)) ∧ State.butDraws s t lw_cs (fun t1 => Framed s o t1 [] room_1.cells room_1.slots)
def lw_Z (below : List Frame) (a : Array Value) (s : State) : State → Prop := fun t => ∃ o, t.status = .running ∧ Ended t below o ∧ lw_Q a s o t
/-- the law's own end, with 1 on the stack, nothing written that was there before, its room as the claim has it; d0: the record of draws at this point (at the entry s.drawn: begin with 'refine W.base ?_' and 'have hd0 := Drawn.sameBut.refl s.drawn lw_cs') -/
theorem lw_ret {p : Program} {l : Launch} {e : Env} {s : State} {m : MethodId} {below : List Frame} {meth : Method} {c : Code} {b : Nat} {d0 : Drawn} (hd0 : s.drawn.sameBut d0 lw_cs) (hx : p.tables.exec = Jvm.exec) (hb : c.code = code) (hr : meth.sig.returnType = ret) (hlocks : meth.locks = false) {pc : Nat} {H : Heap} {ls : Array Slot} (hdg : decode code pc = .ok (.ireturn, 1)) : W p l e room_1 (s.setDrawn d0) m #[Value.ref b] below meth c H [] room_1.cells room_1.slots (lw_Z below #[Value.ref b] s) (F0 m pc ls [.int 1]) := by
  intro T hT X
  obtain ⟨fs, hret, hrun, hended, hW, hframe⟩ := X.leave (v := some (.int 1)) (hlocks := hlocks) (fun h => by rw [hr] at h; cases h)
  have hmeth' : T.vm.method? m = some meth := X.method'
  refine ⟨T.setFrames fs, ?_, .returned (some (.int 1)), hrun, hended, rfl, lw_closed hd0 ⟨_, rfl⟩ hW hframe⟩
  jvm_step X.here [X.here.top, hx, hb, hdg, hmeth', hr, ret, narrow_b1]
  (try refine ⟨rfl, ?_⟩); (try refine ⟨rfl, ?_⟩)
  first | (intro acts; rw [hret _ acts rfl rfl rfl]) | rw [hret _ _ rfl rfl rfl]
  exact Steps.refl _
/-- what holds at the law's entry: the machine, the code, the tables' words (any of lw_tbl by 'hts w (by decide +kernel)'), the script of L ints xs at the cell b, what the Statement gives of the start (any of its parts by flat_of_before) -/
def lw_At (p : Program) (s : State) (m : MethodId) (meth : Method) (c : Code) (b L : Nat) (xs : Nat → Int32) : Prop :=
  p.tables.exec = Jvm.exec ∧ c.code = code ∧ meth.sig.returnType = ret ∧ c.maxLocals = 4 ∧ s.vm.findClass R_law = some m.cls ∧ (∀ w ∈ lw_tbl, w.before #[Value.ref b] s = true) ∧ va_X b L xs s s.heap ∧ b < s.heap.size ∧ meth.locks = false ∧ (Jvm.Cond.and given_1 narrow_1).before #[Value.ref b] s = true

/-- a piece in the middle in another order -/
theorem IN.mid {A : Nat → Prop} {G : GX} {w0 t1 t2 w2 : va_W} {s : State} {H : Heap} {locs : List Loc} (hI : IN A G (w0 ++ (t1 ++ w2)) s H locs) (ps : List Nat) (hq : ps.map (fun i => t1[i]?) = t2.map some) (hn : va_nd ps = true) : IN A G (w0 ++ (t2 ++ w2)) s H locs := by
  have h1 : ∀ {k : Nat} {q : Nat × va_E}, t1[k]? = some q → (w0 ++ (t1 ++ w2))[w0.length + k]? = some q := fun h => q_appR (q_appL h)
  have h2 : ∀ {k : Nat} {q : Nat × va_E}, w2[k]? = some q → (w0 ++ (t1 ++ w2))[w0.length + (t1.length + k)]? = some q := fun h => q_appR (q_appR h)
  have hP0 : va_P G.1 vwCl w0 H := fun k q h => hI.1 k q (q_appL h)
  have hP1 : va_P G.1 vwCl t1 H := fun k q h => hI.1 _ q (h1 h)
  have hP2 : va_P G.1 vwCl w2 H := fun k q h => hI.1 _ q (h2 h)
  have hD0 : va_D A w0 := ⟨fun i j p q a b e => hI.2.1.1 i j p q (q_appL a) (q_appL b) e, fun k q h => hI.2.1.2 k q (q_appL h)⟩
  have hD1 : va_D A t1 := ⟨fun i j p q a b e => by have := hI.2.1.1 _ _ p q (h1 a) (h1 b) e; omega, fun k q h => hI.2.1.2 _ q (h1 h)⟩
  have hD2 : va_D A w2 := ⟨fun i j p q a b e => by have := hI.2.1.1 _ _ p q (h2 a) (h2 b) e; omega, fun k q h => hI.2.1.2 _ q (h2 h)⟩
  refine ⟨va_P.app hP0 (va_P.app (q_Psub hP1 ps hq) hP2), va_D.app hD0 (va_D.app (hD1.sub ps hn hq) hD2 ?_) ?_, hI.2.2⟩
  · intro i j x y hx hy hxy
    obtain ⟨i2, -, hi2⟩ := q_at hq hx
    have := hI.2.1.1 _ _ x y (h1 hi2) (h2 hy) hxy
    have := (List.getElem?_eq_some_iff.mp hi2).1
    omega
  · intro i j x y hx hy hxy
    have hlt := (List.getElem?_eq_some_iff.mp hx).1
    by_cases hj : j < t2.length
    · rw [List.getElem?_append_left hj] at hy
      obtain ⟨i2, -, hi2⟩ := q_at hq hy
      have := hI.2.1.1 _ _ x y (q_appL hx) (h1 hi2) hxy
      omega
    · rw [List.getElem?_append_right (Nat.not_lt.mp hj)] at hy
      have := hI.2.1.1 _ _ x y (q_appL hx) (h2 hy) hxy
      omega
section LAWR
variable {p : Program} {l : Launch} {e : Env} {R : Room} {s : State} {m : MethodId} {args : Array Value} {below : List Frame} {meth : Method} {c : Code} {H : Heap} {locs : List Loc} {cells slots : Nat} {Q : State → Prop}
variable {own : String} {cc : ByteArray} {nL : Nat} {rt : Option FieldType} {G : GX} {A : Nat → Prop} {w w0 wo wc wr w1 w2 : va_W} {pc : Nat} {ls : Array Slot} {rest st0 : List Value} {a : Nat} {mc ms : Nat}
variable {y : MethodName} {cy : ByteArray} {ny index n : Nat} {ry : Option FieldType} {rm : Room} {av : List Value} {v : Option Value} {st1 : List Value}
/-- a method whose world is the last piece -/
theorem x_cVR {t0 : va_W} (X : CX own cc nL rt p s m args meth c) (E : EX G A s) (hI : IN A G (w0 ++ (t0 ++ wc)) s H locs) {C : String} (hM : MX l y cy ny ry rm G wc (.ref a :: av) w1 v mc ms) (hk : GoodIn qt (wsV own index C y (.code y cy ny ry :: qt)))
    (hd : y.cls = C ∧ y.cls ≠ "java/lang/invoke/MethodHandle" ∧ y.cls ≠ "java/lang/invoke/VarHandle" ∧ (parseMethodDescriptor y.desc).map (fun d => d.parameters.length) = some n) (hrm : rm.cells = mc ∧ rm.slots = ms) (hR : rm.frames + 1 ≤ R.frames ∧ 8 + (ny + 11) + rm.locals ≤ R.locals)
    {ci : Nat} (q0 : Nat) {q : vw_C} {fs : List Value} (hc : vwCl[ci]? = some q) (hC : q.1 = C) (he : wc[q0]? = some (a, .inr (ci, fs)))
    (hav : av.length = n) (hls : ls.size = nL) (hst : st0 = av.reverse ++ .ref a :: rest) (hrest : (rest.map fun v => v.category).sum ≤ 8) (hdg : decode cc pc = .ok (.invokevirtual index, 3)) (hf : cells + mc ≤ R.cells ∧ slots + ms ≤ R.slots) (h1 : v.toList ++ rest = st1)
    (kk : ∀ (H : Heap) (locs : List Loc), IN A G (w0 ++ (t0 ++ w1)) s H locs → W p l e R s m args below meth c H locs (cells + mc) (slots + ms) Q (F0 m (pc + 3) ls st1)) : W p l e R s m args below meth c H locs cells slots Q (F0 m pc ls st0) := by
  subst h1
  have hI2 : IN A G ((w0 ++ t0) ++ wc) s H locs := by rw [List.append_assoc]; exact hI
  have hA := sub_A (wc := wc) E hI2 (fun k q h => ⟨_, q_appR h⟩)
  refine x_back (x_runV X E hI2 hM hk hd hrm hR hc hC he (fun k q h => hI2.1 _ q (q_appR h)) ⟨fun i j p q a b e => by have := hI2.2.1.1 _ _ p q (q_appR a) (q_appR b) e; omega, fun _ _ _ => trivial⟩ hA hav hls hst hrest hdg hf) hI2 hA (fun H1 locs1 hp hd _ hk hS => kk H1 locs1 ?_)
  have h3 := q_splitR E hI2 hp hd hk hS
  rw [List.append_assoc] at h3
  exact h3
end LAWR
