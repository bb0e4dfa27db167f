-- ===== the words of all contracts are the tables' own; what a body knows; worlds; contracts; calls =====
/-- the class ids of the worlds, of the array classes (ints, booleans, longs, tapes), and where the static table lies -/
abbrev GX : Type := va_G × (ClassId × ClassId × ClassId × ClassId) × Nat
abbrev TY (G : GX) : List (ClassId × FieldType) := [(G.2.1.1, .int), (G.2.1.2.1, .boolean), (G.2.1.2.2.1, .long), (G.2.1.2.2.2, .object "PaintFrames$Tape")]
def q_cyT : Nat → Value := fun j => .int (q_cyI j)
/-- the static table, as it was at the start -/
def ST (G : GX) (A : Nat → Prop) (U : State) (H : Heap) : Prop := va_Z RX9 "CYCLE_WORTH" "[I" (.ref G.2.2) A U H ∧ va_T .int G.2.2 7 q_cyT A U H ∧ va_Nw (.fieldLinkNest RX2 22 "PaintFrames" "CYCLE_WORTH" "[I" "PaintFrames") U
def CX (own : String) (cc : ByteArray) (nL : Nat) (rt : Option FieldType) (p : Program) (s : State) (m : MethodId) (args : Array Value) (meth : Method) (c : Code) : Prop :=
  p.tables.exec = Jvm.exec ∧ c.code = cc ∧ c.maxLocals = nL ∧ s.vm.findClass own = some m.cls ∧ (∀ w ∈ qt, w.before args s = true) ∧ meth.sig.returnType = rt ∧ meth.locks = false
def EX (G : GX) (A : Nat → Prop) (s : State) : Prop := va_K G.1 vwCl (TY G) s ∧ (∀ q : Nat, s.heap.size ≤ q → A q) ∧ ST G A s s.heap
def IN (A : Nat → Prop) (G : GX) (w : va_W) (s : State) (H : Heap) (locs : List Loc) : Prop := va_P G.1 vwCl w H ∧ va_D A w ∧ va_S A s.heap H locs
def PR (G : GX) (w : va_W) (av : List Value) (sz : Nat) : Array Value → State → Prop := va_Pc av (fun U => U.heap.size = sz ∧ va_P G.1 vwCl w U.heap ∧ va_D (fun _ => True) w ∧ va_K G.1 vwCl (TY G) U ∧ ST G (va_A w sz) U U.heap)
def QX (G : GX) (A : Nat → Prop) (w' : va_W) (v : Option Value) : Array Value → State → Outcome → State → Prop := fun _ st oc t => (oc = .returned v ∧ va_P G.1 vwCl w' t.heap ∧ va_D A w') ∧ va_F A st t
def MX (l : Launch) (y : MethodName) (cc : ByteArray) (nL : Nat) (rt : Option FieldType) (rm : Room) (G : GX) (w : va_W) (av : List Value) (w' : va_W) (v : Option Value) (mc ms : Nat) : Prop :=
  ∀ sz : Nat, Met l y (.code y cc nL rt :: qt) rm (PR G w av sz) (QX G (va_A w sz) w' v) mc ms (va_A w sz)
theorem ST.warm {G : GX} {A : Nat → Prop} {u U : State} {H : Heap} (hW : u.WarmedH U.vm) (h : ST G A u H) : ST G A U H := ⟨h.1.moved hW.alike, h.2.1.moved hW.alike, h.2.2.warmF hW⟩
theorem ST.same {G : GX} {A : Nat → Prop} {u U : State} {H : Heap} (hvm : u.vm = U.vm) (h : ST G A u H) : ST G A U H := ⟨h.1.moved (by rw [hvm]; exact Vm.Alike.refl _), h.2.1.moved (by rw [hvm]; exact Vm.Alike.refl _), h.2.2.same rfl hvm⟩
theorem ST.kept {G : GX} {A : Nat → Prop} {U : State} {H H1 : Heap} (h : ST G A U H) (hq : ∀ a : Nat, a < H.size → ¬ A a → H1[a]? = H[a]?) : ST G A U H1 := ⟨h.1.kept hq, h.2.1.kept hq, h.2.2⟩
theorem ST.narrow {G : GX} {A B : Nat → Prop} {U : State} {H : Heap} (h : ST G A U H) (hAB : ∀ q, B q → A q) : ST G B U H := ⟨h.1.narrow hAB, h.2.1.narrow hAB, h.2.2⟩
/-- as Met.ofW, for a class with rows of natives too, where this method has none -/
theorem q_ofW {l : Launch} {y : MethodName} {ws ws' : List Cond} {rm : Room} {Pc : Array Value → State → Prop} {Qc : Array Value → State → Outcome → State → Prop} {mc ms : Nat} {free : Addr → Prop} {cc : ByteArray} {maxL : Nat} {ret : Option FieldType}
    (hy : plainFor y = true) (hw : ws = Cond.code y cc maxL ret :: ws')
    (body : ∀ p e s m args below meth c s₁, BodyLoose p l y (headSpec ws rm) cc maxL ret e s m args below meth c s₁ → c.maxLocals = maxL → Pc args s →
      W p l e (headSpec ws rm).room s m args below meth c s.heap [] 0 0 (MQ below Qc args s mc ms free) (entryFrame m args maxL)) : Met l y ws rm Pc Qc mc ms free := by
  refine MetFree.of_bodySF (code := cc) (maxLocals := maxL) (ret := ret) hy ?_ ?_
  · intro args s m h hn
    obtain ⟨meth, c, h1, h2, h3, h4, h5, h6, -, -⟩ := Cond.code_spec hn (atoms_spec (ws := ws) h _ (by rw [hw]; exact List.mem_cons_self))
    exact ⟨meth, c, h1, h2, h3, h4, h5, h6⟩
  · intro p e s m args below meth c s₁ B hml hP _
    have hh0 : s₁.heap = s.heap := by rw [B.state]; rfl
    obtain ⟨t, a1, o, b1, b2, b3⟩ := body p e s m args below meth c s₁ B hml hP s₁ hh0 (Stand.of_body B)
    exact ⟨t, o, a1, b1, b2, b3.1, b3.2⟩
set_option maxHeartbeats 1000000 in
/-- a contract out of a walk -/
theorem MX.of {l : Launch} {y : MethodName} {cc : ByteArray} {nL : Nat} {rt : Option FieldType} {rm : Room} {G : GX} {w : va_W} {av : List Value} {w' : va_W} {v : Option Value} {mc ms : Nat}
    (hy : plainFor y = true) (hn : (lg_sl av).length ≤ nL)
    (body : ∀ (p : Program) (e : Env) (s : State) (m : MethodId) (below : List Frame) (meth : Method) (c : Code) (A : Nat → Prop), CX y.cls cc nL rt p s m av.toArray meth c → EX G A s → IN A G w s s.heap [] → ∀ ls : Array Slot, lv_has ls nL (lv_args 0 av) → W p l e rm s m av.toArray below meth c s.heap [] 0 0 (MQ below (QX G A w' v) av.toArray s mc ms A) (F0 m 0 ls [])) : MX l y cc nL rt rm G w av w' v mc ms := by
  intro sz
  refine q_ofW (cc := cc) (maxL := nL) (ret := rt) hy rfl ?_
  intro p e s m args below meth c s₁ B hml hv
  obtain ⟨rfl, hsz, hP, hD0, hK, hST⟩ := hv
  have hts := atoms_spec (ws := .code y cc nL rt :: qt) B.pre
  have hown : s.vm.findClass y.cls = some m.cls := findClass_of_methodNamed B.named
  subst hsz
  have hl := lv_entry av (n := nL) hn
  rw [lg_entry_eq]
  generalize (lg_sl av ++ List.replicate (nL - (lg_sl av).length) Slot.unset).toArray = ls at hl ⊢
  exact body p e s m below meth c (va_A w s.heap.size) ⟨B.exec, B.bytes, hml, hown, fun x h => hts x (List.mem_cons_of_mem _ h), B.returns, B.notSynchronized⟩ ⟨hK, fun q h => Or.inr h, hST⟩ ⟨hP, hD0.self, va_S.rf⟩ ls hl
section BASE
variable {p : Program} {l : Launch} {e : Env} {R : Room} {s : State} {m : MethodId} {args : Array Value} {below : List Frame} {meth : Method} {c : Code} {H : Heap} {locs : List Loc} {cells slots : Nat} {Q : State → Prop}
variable {own : String} {cc : ByteArray} {nL : Nat} {rt : Option FieldType} {G : GX} {A : Nat → Prop} {w : va_W} {pc : Nat} {ls : Array Slot} {rest : List Value}
-- ends
theorem x_ret {v : Option Value} (hI : IN A G w s H locs) : ∀ t : State, t.heap = H → QX G A w v args s (.returned v) t := fun t ht => ⟨⟨rfl, by rw [ht]; exact hI.1, hI.2.1⟩, hI.2.2.F ht⟩
theorem x_iret {r : Int32} (X : CX own cc nL (some .int) p s m args meth c) (hI : IN A G w s H locs) (hdg : decode cc pc = .ok (.ireturn, 1)) : W p l e R s m args below meth c H locs cells slots (MQ below (QX G A w (some (.int r))) args s cells slots A) (F0 m pc ls [.int r]) := by
  obtain ⟨hx, hb, -, -, -, hr, hlocks⟩ := X
  exact W.iret hx hb hr (fun t ht _ => x_ret hI t ht) hI.2.2.2.2 hdg hlocks
theorem x_zret {r : Int32} (X : CX own cc nL (some .boolean) p s m args meth c) (hI : IN A G w s H locs) (hz : r = 0 ∨ r = 1) (hdg : decode cc pc = .ok (.ireturn, 1)) : W p l e R s m args below meth c H locs cells slots (MQ below (QX G A w (some (.int r))) args s cells slots A) (F0 m pc ls [.int r]) := by
  obtain ⟨hx, hb, -, -, -, hr, hlocks⟩ := X
  exact W.zret hx hb hr (by rcases hz with rfl | rfl <;> rfl) (fun t ht _ => x_ret hI t ht) hI.2.2.2.2 hdg hlocks
theorem x_lret {r : Int64} (X : CX own cc nL (some .long) p s m args meth c) (hI : IN A G w s H locs) (hdg : decode cc pc = .ok (.lreturn, 1)) : W p l e R s m args below meth c H locs cells slots (MQ below (QX G A w (some (.long r))) args s cells slots A) (F0 m pc ls [.long r]) := by
  obtain ⟨hx, hb, -, -, -, hr, hlocks⟩ := X
  exact W.lret hx hb hr (fun t ht _ => x_ret hI t ht) hI.2.2.2.2 hdg hlocks
theorem x_vret (X : CX own cc nL none p s m args meth c) (hI : IN A G w s H locs) (hdg : decode cc pc = .ok (.return_, 1)) : W p l e R s m args below meth c H locs cells slots (MQ below (QX G A w none) args s cells slots A) (F0 m pc ls []) := by
  obtain ⟨hx, hb, -, -, -, hr, hlocks⟩ := X
  exact W.vret hx hb hr (fun t ht _ => x_ret hI t ht) hI.2.2.2.2 hdg hlocks
end BASE
