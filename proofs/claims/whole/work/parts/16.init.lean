-- ===== constructors: worlds with new cells, by an address function =====
def NI (U : State) : Prop := va_AO "PaintFrames$Tape" U ∧ ∀ q ∈ q_nest, va_Nw (.methodLinkNest RX9 q.1 q.2 "PaintFrames") U
theorem NI.warm {u U : State} (hW : u.WarmedH U.vm) (h : NI u) : NI U := ⟨h.1.moved hW.alike, fun q hq => (h.2 q hq).warmM hW⟩
theorem NI.same {u U : State} (hvm : u.vm = U.vm) (h : NI u) : NI U := ⟨h.1.moved (by rw [hvm]; exact Vm.Alike.refl _), fun q hq => (h.2 q hq).same rfl hvm⟩
def PN (G : GX) (w : va_W) (av : List Value) (sz : Nat) : Array Value → State → Prop := va_Pc av (fun U => U.heap.size = sz ∧ va_P G.1 vwCl w U.heap ∧ va_D (fun _ => True) w ∧ va_K G.1 vwCl (TY G) U ∧ ST G (va_A w sz) U U.heap ∧ NI U)
def QN (G : GX) (A : Nat → Prop) (a0 : Nat) (w' : (Nat → Nat) → va_W) : Array Value → State → Outcome → State → Prop := fun _ st oc t => (∃ ad : Nat → Nat, ad 0 = a0 ∧ oc = .returned none ∧ va_P G.1 vwCl (w' ad) t.heap ∧ va_D A (w' ad)) ∧ va_F A st t
def MN (l : Launch) (y : MethodName) (cc : ByteArray) (nL : Nat) (rm : Room) (G : GX) (w : va_W) (a0 : Nat) (w' : (Nat → Nat) → va_W) (mc ms : Nat) : Prop :=
  ∀ sz : Nat, Met l y (.code y cc nL none :: qt) rm (PN G w [.ref a0] sz) (QN G (va_A w sz) a0 w') mc ms (va_A w sz)
set_option maxHeartbeats 1000000 in
theorem MN.of {l : Launch} {y : MethodName} {cc : ByteArray} {nL : Nat} {rm : Room} {G : GX} {w : va_W} {a0 : Nat} {w' : (Nat → Nat) → va_W} {mc ms : Nat}
    (hy : plainFor y = true) (hyn : y.name = "<init>") (hn : (lg_sl [.ref a0]).length ≤ nL)
    (body : ∀ (p : Program) (e : Env) (s : State) (m : MethodId) (below : List Frame) (meth : Method) (c : Code) (A : Nat → Prop), CX y.cls cc nL none p s m [Value.ref a0].toArray meth c → meth.name = "<init>" → EX G A s → NI s → IN A G w s s.heap [] → ∀ ls : Array Slot, lv_has ls nL [(0, .ref a0)] → W p l e rm s m [Value.ref a0].toArray below meth c s.heap [] 0 0 (MQ below (QN G A a0 w') [Value.ref a0].toArray s mc ms A) (F0 m 0 ls [])) : MN l y cc nL rm G w a0 w' mc ms := by
  intro sz
  refine q_ofW (cc := cc) (maxL := nL) (ret := none) hy rfl ?_
  intro p e s m args below meth c s₁ B hml hv
  obtain ⟨rfl, hsz, hP, hD0, hK, hST, hNI⟩ := hv
  have hts := atoms_spec (ws := .code y cc nL none :: qt) B.pre
  have hown : s.vm.findClass y.cls = some m.cls := findClass_of_methodNamed B.named
  have hin : meth.name = "<init>" := (name_of_methodNamed B.named B.method).1.trans hyn
  subst hsz
  have hl := lv_entry [.ref a0] (n := nL) hn
  rw [lg_entry_eq]
  generalize (lg_sl [.ref a0] ++ List.replicate (nL - (lg_sl [.ref a0]).length) Slot.unset).toArray = ls at hl ⊢
  exact body p e s m below meth c (va_A w s.heap.size) ⟨B.exec, B.bytes, hml, hown, fun x h => hts x (List.mem_cons_of_mem _ h), B.returns, B.notSynchronized⟩ hin ⟨hK, fun q h => Or.inr h, hST⟩ hNI ⟨hP, hD0.self, va_S.rf⟩ ls hl
/-- the frame rule for a world that stands behind, or ahead -/
theorem q_splitR {A : Nat → Prop} {G : GX} {w0 wc w1 : va_W} {s : State} {H H1 : Heap} {locs locs1 : List Loc} (E : EX G A s) (hI : IN A G (w0 ++ wc) s H locs) (hp : va_P G.1 vwCl w1 H1) (hd : va_D (va_A wc H.size) w1) (hk : ∀ q : Nat, q < H.size → ¬ va_A wc H.size q → H1[q]? = H[q]?) (hS : va_S A s.heap H1 locs1) : IN A G (w0 ++ w1) s H1 locs1 := by
  have hA := sub_A (wc := wc) E hI (fun k q h => ⟨_, q_appR h⟩)
  have out : ∀ (k : Nat) (q : Nat × va_E), w0[k]? = some q → q.1 < H.size ∧ ¬ va_A wc H.size q.1 := by
    intro k q hq
    have hl := (hI.1 _ q (q_appL hq)).lt
    refine ⟨hl, ?_⟩
    rintro (⟨k2, e2, h⟩ | h)
    · have := hI.2.1.1 k _ q (q.1, e2) (q_appL hq) (q_appR h) rfl
      have := (List.getElem?_eq_some_iff.mp hq).1
      omega
    · omega
  have hD0 : va_D A w0 := ⟨fun i j p q h1 h2 e => hI.2.1.1 i j p q (q_appL h1) (q_appL h2) e, fun k q h => hI.2.1.2 k q (q_appL h)⟩
  refine ⟨va_P.app (fun k q hq => (hI.1 _ q (q_appL hq)).kept (hk q.1 (out k q hq).1 (out k q hq).2)) hp, va_D.app hD0 (hd.weaken (fun k q _ h => hA q.1 h)) (fun i j x y hx hy hxy => (out i x hx).2 (by rw [hxy]; exact hd.2 j y hy)), hS⟩
theorem q_splitL {A : Nat → Prop} {G : GX} {w0 wc w1 : va_W} {s : State} {H H1 : Heap} {locs locs1 : List Loc} (E : EX G A s) (hI : IN A G (wc ++ w0) s H locs) (hp : va_P G.1 vwCl w1 H1) (hd : va_D (va_A wc H.size) w1) (hk : ∀ q : Nat, q < H.size → ¬ va_A wc H.size q → H1[q]? = H[q]?) (hS : va_S A s.heap H1 locs1) : IN A G (w1 ++ w0) s H1 locs1 := by
  have hA := sub_A (wc := wc) E hI (fun k q h => ⟨_, q_appL h⟩)
  have out : ∀ (k : Nat) (q : Nat × va_E), w0[k]? = some q → q.1 < H.size ∧ ¬ va_A wc H.size q.1 := by
    intro k q hq
    have hl := (hI.1 _ q (q_appR (w0 := wc) hq)).lt
    refine ⟨hl, ?_⟩
    rintro (⟨k2, e2, h⟩ | h)
    · have := hI.2.1.1 k2 _ (q.1, e2) q (q_appL h) (q_appR (w0 := wc) hq) rfl
      have := (List.getElem?_eq_some_iff.mp h).1
      omega
    · omega
  have hD0 : va_D A w0 := ⟨fun i j p q h1 h2 e => by have := hI.2.1.1 _ _ p q (q_appR (w0 := wc) h1) (q_appR (w0 := wc) h2) e; omega, fun k q h => hI.2.1.2 _ q (q_appR (w0 := wc) h)⟩
  refine ⟨va_P.app hp (fun k q hq => (hI.1 _ q (q_appR (w0 := wc) hq)).kept (hk q.1 (out k q hq).1 (out k q hq).2)), va_D.app (hd.weaken (fun k q _ h => hA q.1 h)) hD0 (fun i j x y hx hy hxy => (out j y hy).2 (by rw [← hxy]; exact hd.2 i x hx)), hS⟩
theorem pn_blind {G : GX} {w : va_W} {av : List Value} {sz : Nat} : FrameBlind (PN G w av sz) := by
  intro a U g mk h
  obtain ⟨h0, h1, h2, h3, h4, h5, h6⟩ := h
  exact ⟨h0, h1, h2, h3, va_K.moved (u := U) (U := U.calling g mk a) (Vm.Alike.refl U.vm) h4, h5.same (u := U) (U := U.calling g mk a) rfl, h6.same (u := U) (U := U.calling g mk a) rfl⟩
section INIT
variable {p : Program} {l : Launch} {e : Env} {R : Room} {s : State} {m : MethodId} {args : Array Value} {below : List Frame} {meth : Method} {c : Code} {H : Heap} {locs : List Loc} {cells slots : Nat} {Q : State → Prop}
variable {own : String} {cc : ByteArray} {nL : Nat} {rt : Option FieldType} {G : GX} {A : Nat → Prop} {w w0 wc : va_W} {pc : Nat} {ls : Array Slot} {rest st0 : List Value} {a : Nat} {mc ms : Nat}
variable {y : MethodName} {cy : ByteArray} {ny index n : Nat} {rm : Room}
theorem x_vretN {a0 : Nat} {w' : (Nat → Nat) → va_W} (ad : Nat → Nat) (had : ad 0 = a0) (X : CX own cc nL none p s m args meth c) (hI : IN A G (w' ad) s H locs) (hdg : decode cc pc = .ok (.return_, 1)) : W p l e R s m args below meth c H locs cells slots (MQ below (QN G A a0 w') args s cells slots A) (F0 m pc ls []) := by
  obtain ⟨hx, hb, -, -, -, hr, hlocks⟩ := X
  exact W.vret hx hb hr (fun t ht _ => ⟨⟨ad, had, rfl, by rw [ht]; exact hI.1, hI.2.1⟩, hI.2.2.F ht⟩) hI.2.2.2.2 hdg hlocks
theorem x_obj (X : CX own cc nL rt p s m args meth c) {idx : Nat} (hl : Cond.methodLink own idx Lib.objectInit ∈ qt) (hls : ls.size = nL) (hd : decode cc pc = .ok (.invokespecial idx, 3)) (hframes : 1 ≤ R.frames) (hlocals : 12 ≤ R.locals)
    (kk : W p l e R s m args below meth c H locs cells slots Q (F0 m (pc + 3) ls [])) : W p l e R s m args below meth c H locs cells slots Q (F0 m pc ls [.ref a]) :=
  W.objInit X.1 X.2.1 X.2.2.2.1 (X.2.2.2.2.1 _ hl) (X.2.2.2.2.1 _ sw_objInst) (X.2.2.2.2.1 _ sw_objCode) rfl (hls.trans X.2.2.1.symm) rfl hd hframes hlocals kk
theorem x_new (X : CX own cc nL rt p s m args meth c) (E : EX G A s) (hI : IN A G w s H locs) {C : String} {T : u_T} {N ci : Nat} (hin : ∀ w ∈ u_ws C T N, w ∈ qt) (ty : Nat → FieldType) (hty : ∀ k, k < N → parseFieldDescriptor (T k).2.2.1 = some (ty k)) (hcl : Cond.classLink own index C ∈ qt) (hinst : Cond.instantiable C N ∈ qt) (hini : Cond.initialized C ∈ qt) (hc : vwCl[ci]? = some (C, T, N)) {fs : List Value} (hfs : ∀ j, j < N → defaultValue (ty j) = vp_V fs j) (hcells : cells + 1 ≤ R.cells) (hslots : slots + N ≤ R.slots) (hdg : decode cc pc = .ok (.new index, 3))
    (kk : ∀ (q : Nat) (H : Heap), IN A G (w ++ [(q, .inr (ci, fs))]) s H locs → W p l e R s m args below meth c H locs (cells + 1) (slots + N) Q (F0 m (pc + 3) ls (.ref q :: rest))) : W p l e R s m args below meth c H locs cells slots Q (F0 m pc ls rest) :=
  va_new (D := G.1) X.1 X.2.1 X.2.2.2.2.1 hin ty hty X.2.2.2.1 (X.2.2.2.2.1 _ hcl) (X.2.2.2.2.1 _ hinst) (X.2.2.2.2.1 _ hini) E.1 hI.1 hI.2.1 hI.2.2 E.2.1 hc hfs hcells hslots hdg (fun q H1 a1 a2 a3 => kk q H1 ⟨a1, a2, a3⟩)
theorem x_newL (X : CX own cc nL rt p s m args meth c) (E : EX G A s) (hI : IN A G w s H locs) (harr : Cond.arrayClass .long ∈ qt) {n : Int32} {N : Nat} (hn : ¬ n < 0) (hN : n.toNatClampNeg = N) (hbytes : N * 8 ≤ 536870912) (hcells : cells + 1 ≤ R.cells) (hslots : slots + N ≤ R.slots) (hdg : decode cc pc = .ok (.newarray .long, 2))
    (kk : ∀ (q : Nat) (H : Heap), IN A G (w ++ [(q, .inl (G.2.1.2.2.1, N, .inr (.inl (fun _ => 0))))]) s H locs → W p l e R s m args below meth c H locs (cells + 1) (slots + N) Q (F0 m (pc + 2) ls (.ref q :: rest))) : W p l e R s m args below meth c H locs cells slots Q (F0 m pc ls (.int n :: rest)) := by
  refine va_newa (atype := .long) (ty := .long) (D := G.1) (a0 := (N, .inr (.inl (fun _ => 0)))) X.1 X.2.1 (X.2.2.2.2.1 _ harr) rfl E.1 hI.1 hI.2.1 hI.2.2 E.2.1 (fun _ => rfl) hn hN hbytes hcells hslots hdg (fun q cA H1 hK hP hD hS => ?_)
  have e1 : s.vm.findClass ("[" ++ FieldType.long.toString) = some cA := (hK.2 4 (cA, .long) rfl).2
  have e2 : s.vm.findClass ("[" ++ FieldType.long.toString) = some G.2.1.2.2.1 := (E.1.2 2 (G.2.1.2.2.1, .long) rfl).2
  have e3 : cA = G.2.1.2.2.1 := Option.some.inj (e1.symm.trans e2)
  subst e3
  exact kk q H1 ⟨hP, hD, hS⟩
theorem x_newZ (X : CX own cc nL rt p s m args meth c) (E : EX G A s) (hI : IN A G w s H locs) (harr : Cond.arrayClass .boolean ∈ qt) {n : Int32} {N : Nat} (hn : ¬ n < 0) (hN : n.toNatClampNeg = N) (hbytes : N * 1 ≤ 536870912) (hcells : cells + 1 ≤ R.cells) (hslots : slots + N ≤ R.slots) (hdg : decode cc pc = .ok (.newarray .boolean, 2))
    (kk : ∀ (q : Nat) (H : Heap), IN A G (w ++ [(q, .inl (G.2.1.2.1, N, .inl (fun _ => 0)))]) s H locs → W p l e R s m args below meth c H locs (cells + 1) (slots + N) Q (F0 m (pc + 2) ls (.ref q :: rest))) : W p l e R s m args below meth c H locs cells slots Q (F0 m pc ls (.int n :: rest)) := by
  refine va_newa (atype := .boolean) (ty := .boolean) (D := G.1) (a0 := (N, .inl (fun _ => 0))) X.1 X.2.1 (X.2.2.2.2.1 _ harr) rfl E.1 hI.1 hI.2.1 hI.2.2 E.2.1 (fun _ => rfl) hn hN hbytes hcells hslots hdg (fun q cA H1 hK hP hD hS => ?_)
  have e1 : s.vm.findClass ("[" ++ FieldType.boolean.toString) = some cA := (hK.2 4 (cA, .boolean) rfl).2
  have e2 : s.vm.findClass ("[" ++ FieldType.boolean.toString) = some G.2.1.2.1 := (E.1.2 1 (G.2.1.2.1, .boolean) rfl).2
  have e3 : cA = G.2.1.2.1 := Option.some.inj (e1.symm.trans e2)
  subst e3
  exact kk q H1 ⟨hP, hD, hS⟩
theorem x_newT (X : CX own cc nL rt p s m args meth c) (E : EX G A s) (N0 : NI s) (hI : IN A G w s H locs) (hcl : Cond.classLink own index "PaintFrames$Tape" ∈ qt) {n : Int32} {N : Nat} (hn : ¬ n < 0) (hN : n.toNatClampNeg = N) (hbytes : N * 4 ≤ 536870912) (hcells : cells + 1 ≤ R.cells) (hslots : slots + N ≤ R.slots) (hdg : decode cc pc = .ok (.anewarray index, 3))
    (kk : ∀ (q : Nat) (H : Heap), IN A G (w ++ [(q, .inl (G.2.1.2.2.2, N, .inr (.inr (.inr (.inr (fun _ => none))))))]) s H locs → W p l e R s m args below meth c H locs (cells + 1) (slots + N) Q (F0 m (pc + 3) ls (.ref q :: rest))) : W p l e R s m args below meth c H locs cells slots Q (F0 m pc ls (.int n :: rest)) := by
  refine va_newq (D := G.1) X.1 X.2.1 X.2.2.2.1 (X.2.2.2.2.1 _ hcl) N0.1 E.1 hI.1 hI.2.1 hI.2.2 E.2.1 hn hN hbytes hcells hslots hdg (fun q cA H1 hK hP hD hS => ?_)
  obtain ⟨kA, comp, -, -, -, e1⟩ := (hK.2 4 (cA, .object "PaintFrames$Tape") rfl).2
  obtain ⟨kA2, comp2, -, -, -, e2⟩ := (E.1.2 3 (G.2.1.2.2.2, .object "PaintFrames$Tape") rfl).2
  have e3 : cA = G.2.1.2.2.2 := Option.some.inj (e1.symm.trans e2)
  subst e3
  exact kk q H1 ⟨hP, hD, hS⟩
theorem x_aast (X : CX own cc nL rt p s m args meth c) (E : EX G A s) (hI : IN A G w s H locs) (q0 qk : Nat) {n v : Nat} {vs : List Value} {f : Nat → Option Nat} (ha : w[q0]? = some (a, .inl (G.2.1.2.2.2, n, .inr (.inr (.inr (.inr f)))))) (hv : w[qk]? = some (v, .inr (4, vs))) {i : Int32} (hin : vp_in i n) {w' : va_W} (hw : w.set q0 (a, .inl (G.2.1.2.2.2, n, .inr (.inr (.inr (.inr (va_up f i.toNatClampNeg (some v))))))) = w') (hdg : decode cc pc = .ok (.aastore, 1))
    (kk : ∀ (H : Heap) (locs : List Loc), IN A G w' s H locs → W p l e R s m args below meth c H locs cells slots Q (F0 m (pc + 1) ls rest)) : W p l e R s m args below meth c H locs cells slots Q (F0 m pc ls (.ref v :: .int i :: .ref a :: rest)) := by
  subst hw
  exact va_astq X.1 X.2.1 E.1 hI.1 hI.2.1 hI.2.2 q0 3 qk 4 (r := (RX6, TX6, 3)) ha rfl hv rfl hin hdg (fun H1 l1 a1 a2 a3 => kk H1 l1 ⟨a1, a2, a3⟩)
theorem x_putF (X : CX own cc nL rt p s m args meth c) (hname : meth.name = "<init>") (E : EX G A s) (hI : IN A G w s H locs) {C : String} {T : u_T} {N ci : Nat} (hin : ∀ w ∈ u_ws C T N, w ∈ qt) (ty0 : Nat → FieldType) (hty : ∀ k, k < N → parseFieldDescriptor (T k).2.2.1 = some (ty0 k)) (hnm : ∀ a, a < N → ∀ b, b < N → a ≠ b → (T a).2.1 ≠ (T b).2.1) (q0 : Nat) {fs : List Value} (he : w[q0]? = some (a, .inr (ci, fs))) (hc : vwCl[ci]? = some (C, T, N)) (k : Nat) (hk : k < N) (hl : Cond.fieldLink own index (T k).1 (T k).2.1 (T k).2.2.1 ∈ qt) (hfin : (T k).2.2.2 = true) (hdecl : (T k).1 = own) {v : Value} (hn : narrow (ty0 k) v = v) (hfit : fits (ty0 k) v = true) (hlen : k < fs.length) {w' : va_W} (hw : w.set q0 (a, .inr (ci, fs.set k v)) = w') (hdg : decode cc pc = .ok (.putfield index, 3))
    (kk : ∀ (H : Heap) (locs : List Loc), IN A G w' s H locs → W p l e R s m args below meth c H locs cells slots Q (F0 m (pc + 3) ls rest)) : W p l e R s m args below meth c H locs cells slots Q (F0 m pc ls (v :: .ref a :: rest)) := by
  subst hw
  exact va_putF (D := G.1) X.1 X.2.1 X.2.2.2.2.1 hin ty0 hty hnm X.2.2.2.1 E.1 hI.1 hI.2.1 hI.2.2 q0 he hc k hk (X.2.2.2.2.1 _ hl) (fun _ h => h) hfin hname hdecl (hty k hk) hn hfit hlen hdg (fun H1 l1 a1 a2 a3 => kk H1 l1 ⟨a1, a2, a3⟩)
/-- behind a constructor's call -/
theorem x_backN {w1 : (Nat → Nat) → va_W} {av : Array Value} {a0 : Nat} (hr : va_Run p l e R s m args below meth c H locs cells slots mc ms (F0 m pc ls st0) rest (QN G (va_A wc H.size) a0 w1 av) (va_A wc H.size)) (E : EX G A s) (hI : IN A G (w0 ++ wc) s H locs)
    (kk : ∀ (ad : Nat → Nat) (H : Heap) (locs : List Loc), ad 0 = a0 → IN A G (w0 ++ w1 ad) s H locs → W p l e R s m args below meth c H locs (cells + mc) (slots + ms) Q (F0 m (pc + 3) ls rest)) : W p l e R s m args below meth c H locs cells slots Q (F0 m pc ls st0) := by
  have hA := sub_A (wc := wc) E hI (fun k q h => ⟨_, q_appR h⟩)
  intro T hT X
  obtain ⟨v', st₀, t, T', L, h0, X', hL, e1, e2, ⟨⟨ad, ha, hv, hp, hd⟩, hz, hk⟩, st⟩ := hr T hT X
  cases hv
  rw [h0] at hz hk
  obtain ⟨t2, a1, b1⟩ := kk ad T'.heap (locs ++ L) ha (q_splitR E hI (by rw [e1]; exact hp) hd (fun q h1 h2 => by rw [e1]; exact hk q h1 h2)
    ⟨Nat.le_trans hI.2.2.1 (by rw [e1]; exact hz), fun q h1 h2 => by rw [e1, hk q (Nat.lt_of_lt_of_le h1 hI.2.2.1) (fun z => h2 (hA q z))]; exact hI.2.2.2.1 q h1 h2, fun q hq => by
      rcases List.mem_append.mp hq with h | h
      · exact hI.2.2.2.2 q h
      · exact hA _ (hL q h)⟩) T' rfl X'
  exact ⟨t2, st t2 a1, b1⟩
theorem pn_of {av : List Value} (E : EX G A s) (N0 : NI s) (hI : IN A G (w0 ++ wc) s H locs) : ∀ U : State, U.heap = H → s.WarmedH U.vm → PN G wc av H.size av.toArray U := by
  intro U hU hW
  have hA := sub_A (wc := wc) E hI (fun k q h => ⟨_, q_appR h⟩)
  refine ⟨rfl, by rw [hU], ?_, ⟨fun i j p q h1 h2 e => by have := hI.2.1.1 _ _ p q (q_appR (w0 := w0) h1) (q_appR (w0 := w0) h2) e; omega, fun _ _ _ => trivial⟩, va_K.moved hW.alike E.1, ?_, N0.warm hW⟩
  · rw [hU]; exact fun k q h => hI.1 _ q (q_appR (w0 := w0) h)
  · rw [hU]; exact ((E.2.2.kept hI.2.2.2.1).narrow hA).warm hW
/-- a constructor that is linked plainly -/
theorem x_cI (X : CX own cc nL rt p s m args meth c) (E : EX G A s) (N0 : NI s) (hI : IN A G (w0 ++ wc) s H locs) {w1 : (Nat → Nat) → va_W} (hM : MN l y cy ny rm G wc a w1 mc ms) (hyn : y.name = "<init>") (hlink : Cond.methodLink own index y ∈ qt) (hinst : Cond.instanceMethod y ∈ qt) (hini : Cond.initialized y.cls ∈ qt) (hcode : Cond.code y cy ny none ∈ qt)
    (hd : y.cls ≠ "java/lang/invoke/MethodHandle" ∧ y.cls ≠ "java/lang/invoke/VarHandle" ∧ (parseMethodDescriptor y.desc).map (fun d => d.parameters.length) = some 0) (hrm : rm.cells = mc ∧ rm.slots = ms) (hR : rm.frames + 1 ≤ R.frames ∧ 8 + (ny + 11) + rm.locals ≤ R.locals)
    (hls : ls.size = nL) (hst : st0 = .ref a :: rest) (hrest : (rest.map fun v => v.category).sum ≤ 8) (hdg : decode cc pc = .ok (.invokespecial index, 3)) (hf : cells + mc ≤ R.cells ∧ slots + ms ≤ R.slots)
    (kk : ∀ (ad : Nat → Nat) (H : Heap) (locs : List Loc), ad 0 = a → IN A G (w0 ++ w1 ad) s H locs → W p l e R s m args below meth c H locs (cells + mc) (slots + ms) Q (F0 m (pc + 3) ls rest)) : W p l e R s m args below meth c H locs cells slots Q (F0 m pc ls st0) :=
  x_backN (va_runI (As := []) (n := 0) (own := own) (index := index) (bytes := cy) (maxL := ny) (nL := nL) ⟨X.1, X.2.1, X.2.2.1, X.2.2.2.1, X.2.2.2.2.1⟩ (hM H.size) (cwI 0 X.2.2.2.2.1 (qt_cons hcode qt_good) rfl hrm.1 hrm.2 (X.2.2.2.2.1 _ hini) (X.2.2.2.2.1 _ hlink) (X.2.2.2.2.1 _ hinst) hyn hd hR) ⟨pn_blind, pn_of E N0 hI⟩ rfl rfl hls hst (lv_room hrest) hdg hf) E hI kk
/-- a nest mate's private constructor -/
theorem x_cIN (X : CX RX9 cc nL rt p s m args meth c) (E : EX G A s) (N0 : NI s) (hI : IN A G (w0 ++ wc) s H locs) {w1 : (Nat → Nat) → va_W} (hM : MN l y cy ny rm G wc a w1 mc ms) (hyn : y.name = "<init>") (hlink : (index, y) ∈ q_nest) (hinst : Cond.instanceMethod y ∈ qt) (hini : Cond.initialized y.cls ∈ qt) (hcode : Cond.code y cy ny none ∈ qt)
    (hd : y.cls ≠ "java/lang/invoke/MethodHandle" ∧ y.cls ≠ "java/lang/invoke/VarHandle" ∧ (parseMethodDescriptor y.desc).map (fun d => d.parameters.length) = some 0) (hrm : rm.cells = mc ∧ rm.slots = ms) (hR : rm.frames + 1 ≤ R.frames ∧ 8 + (ny + 11) + rm.locals ≤ R.locals)
    (hls : ls.size = nL) (hst : st0 = .ref a :: rest) (hrest : (rest.map fun v => v.category).sum ≤ 8) (hdg : decode cc pc = .ok (.invokespecial index, 3)) (hf : cells + mc ≤ R.cells ∧ slots + ms ≤ R.slots)
    (kk : ∀ (ad : Nat → Nat) (H : Heap) (locs : List Loc), ad 0 = a → IN A G (w0 ++ w1 ad) s H locs → W p l e R s m args below meth c H locs (cells + mc) (slots + ms) Q (F0 m (pc + 3) ls rest)) : W p l e R s m args below meth c H locs cells slots Q (F0 m pc ls st0) :=
  x_backN (va_runIN (As := []) (n := 0) (own := RX9) (host := "PaintFrames") (index := index) (bytes := cy) (maxL := ny) (nL := nL) ⟨X.1, X.2.1, X.2.2.1, X.2.2.2.1, X.2.2.2.2.1⟩ (hM H.size) ⟨va_cnB 0 X.2.2.2.2.1 (qt_cons hcode qt_good) rfl hrm.1 hrm.2 (N0.2 _ hlink) (X.2.2.2.2.1 _ hini) hd hR, hyn, X.2.2.2.2.1 _ hinst⟩ ⟨pn_blind, pn_of E N0 hI⟩ rfl rfl hls hst (lv_room hrest) hdg hf) E hI kk
end INIT
