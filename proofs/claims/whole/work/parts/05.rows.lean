-- ===== rows over worlds, by what the pure steps say =====
section ROWS
variable {p : Program} {l : Launch} {e : Env} {R : Room} {s : State} {m : MethodId} {args : Array Value} {below : List Frame} {meth : Method} {c : Code} {H : Heap} {locs : List Loc} {cells slots : Nat} {Q : State → Prop}
variable {own : String} {cc : ByteArray} {nL : Nat} {rt : Option FieldType} {G : GX} {A : Nat → Prop} {w : va_W} {pc : Nat} {ls : Array Slot} {rest : List Value} {a : Nat}
theorem x_iald (X : CX own cc nL rt p s m args meth c) (E : EX G A s) (hI : IN A G w s H locs) (q0 : Nat) {n : Nat} {f : Nat → Int32} (ha : w[q0]? = some (a, .inl (G.2.1.1, n, .inl f))) {i v : Int32} (h : q_rd f n i = some v) (hdg : decode cc pc = .ok (.iaload, 1))
    (kk : W p l e R s m args below meth c H locs cells slots Q (F0 m (pc + 1) ls (.int v :: rest))) : W p l e R s m args below meth c H locs cells slots Q (F0 m pc ls (.int i :: .ref a :: rest)) := by
  obtain ⟨h1, rfl⟩ := q_rd_i h
  exact va_iald X.1 X.2.1 E.1 hI.1 q0 0 ha rfl h1 hdg kk
theorem x_zald (X : CX own cc nL rt p s m args meth c) (E : EX G A s) (hI : IN A G w s H locs) (q0 : Nat) {n : Nat} {f : Nat → Int32} (ha : w[q0]? = some (a, .inl (G.2.1.2.1, n, .inl f))) {i v : Int32} (h : q_rd f n i = some v) (hdg : decode cc pc = .ok (.baload, 1))
    (kk : W p l e R s m args below meth c H locs cells slots Q (F0 m (pc + 1) ls (.int v :: rest))) : W p l e R s m args below meth c H locs cells slots Q (F0 m pc ls (.int i :: .ref a :: rest)) := by
  obtain ⟨h1, rfl⟩ := q_rd_i h
  exact va_zald X.1 X.2.1 E.1 hI.1 q0 1 ha rfl h1 hdg kk
theorem x_lald (X : CX own cc nL rt p s m args meth c) (E : EX G A s) (hI : IN A G w s H locs) (q0 : Nat) {n : Nat} {f : Nat → Int64} (ha : w[q0]? = some (a, .inl (G.2.1.2.2.1, n, .inr (.inl f)))) {i : Int32} {v : Int64} (h : q_rd f n i = some v) (hdg : decode cc pc = .ok (.laload, 1))
    (kk : W p l e R s m args below meth c H locs cells slots Q (F0 m (pc + 1) ls (.long v :: rest))) : W p l e R s m args below meth c H locs cells slots Q (F0 m pc ls (.int i :: .ref a :: rest)) := by
  obtain ⟨h1, rfl⟩ := q_rd_i h
  exact va_lald X.1 X.2.1 E.1 hI.1 q0 2 ha rfl h1 hdg kk
theorem x_iast (X : CX own cc nL rt p s m args meth c) (E : EX G A s) (hI : IN A G w s H locs) (q0 : Nat) {n : Nat} {f g : Nat → Int32} {w' : va_W} (ha : w[q0]? = some (a, .inl (G.2.1.1, n, .inl f))) {i x : Int32} (h : q_wt f n i x = some g) (hw : w.set q0 (a, .inl (G.2.1.1, n, .inl g)) = w') (hdg : decode cc pc = .ok (.iastore, 1))
    (kk : ∀ (H : Heap) (locs : List Loc), IN A G w' s H locs → W p l e R s m args below meth c H locs cells slots Q (F0 m (pc + 1) ls rest)) : W p l e R s m args below meth c H locs cells slots Q (F0 m pc ls (.int x :: .int i :: .ref a :: rest)) := by
  obtain ⟨h1, rfl⟩ := q_wt_i h
  subst hw
  exact va_iast X.1 X.2.1 E.1 hI.1 hI.2.1 hI.2.2 q0 0 ha rfl h1 hdg (fun H1 l1 a1 a2 a3 => kk H1 l1 ⟨a1, a2, a3⟩)
theorem x_zast (X : CX own cc nL rt p s m args meth c) (E : EX G A s) (hI : IN A G w s H locs) (q0 : Nat) {n : Nat} {f g : Nat → Int32} {w' : va_W} (ha : w[q0]? = some (a, .inl (G.2.1.2.1, n, .inl f))) {i x : Int32} (h : q_wz f n i x = some g) (hw : w.set q0 (a, .inl (G.2.1.2.1, n, .inl g)) = w') (hdg : decode cc pc = .ok (.bastore, 1))
    (kk : ∀ (H : Heap) (locs : List Loc), IN A G w' s H locs → W p l e R s m args below meth c H locs cells slots Q (F0 m (pc + 1) ls rest)) : W p l e R s m args below meth c H locs cells slots Q (F0 m pc ls (.int x :: .int i :: .ref a :: rest)) := by
  obtain ⟨h1, rfl⟩ := q_wz_i h
  subst hw
  exact va_zast X.1 X.2.1 E.1 hI.1 hI.2.1 hI.2.2 q0 1 ha rfl h1 hdg (fun H1 l1 a1 a2 a3 => kk H1 l1 ⟨a1, a2, a3⟩)
theorem x_last (X : CX own cc nL rt p s m args meth c) (E : EX G A s) (hI : IN A G w s H locs) (q0 : Nat) {n : Nat} {f g : Nat → Int64} {w' : va_W} (ha : w[q0]? = some (a, .inl (G.2.1.2.2.1, n, .inr (.inl f)))) {i : Int32} {x : Int64} (h : q_wl f n i x = some g) (hw : w.set q0 (a, .inl (G.2.1.2.2.1, n, .inr (.inl g))) = w') (hdg : decode cc pc = .ok (.lastore, 1))
    (kk : ∀ (H : Heap) (locs : List Loc), IN A G w' s H locs → W p l e R s m args below meth c H locs cells slots Q (F0 m (pc + 1) ls rest)) : W p l e R s m args below meth c H locs cells slots Q (F0 m pc ls (.long x :: .int i :: .ref a :: rest)) := by
  obtain ⟨h1, rfl⟩ := q_wl_i h
  subst hw
  exact va_last X.1 X.2.1 E.1 hI.1 hI.2.1 hI.2.2 q0 2 ha rfl h1 hdg (fun H1 l1 a1 a2 a3 => kk H1 l1 ⟨a1, a2, a3⟩)
theorem x_alen (X : CX own cc nL rt p s m args meth c) (E : EX G A s) (hI : IN A G w s H locs) (q0 : Nat) {n : Nat} {f : Nat → Int32} (ha : w[q0]? = some (a, .inl (G.2.1.1, n, .inl f))) {v : Int32} (hv : Int32.ofNat n = v) (hdg : decode cc pc = .ok (.arraylength, 1))
    (kk : W p l e R s m args below meth c H locs cells slots Q (F0 m (pc + 1) ls (.int v :: rest))) : W p l e R s m args below meth c H locs cells slots Q (F0 m pc ls (.ref a :: rest)) :=
  va_alen X.1 X.2.1 E.1 hI.1 q0 0 ha (ty := .int) rfl hv hdg kk
theorem x_get (X : CX own cc nL rt p s m args meth c) (E : EX G A s) (hI : IN A G w s H locs) {C : String} {T : u_T} {N ci index : Nat} (hin : ∀ w ∈ u_ws C T N, w ∈ qt) (q0 : Nat) {fs : List Value} (he : w[q0]? = some (a, .inr (ci, fs))) (hc : vwCl[ci]? = some (C, T, N)) (k : Nat) (hk : k < N) (hl : Cond.fieldLink own index (T k).1 (T k).2.1 (T k).2.2.1 ∈ qt) {v : Value} (hv : fs[k]? = some v) (hdg : decode cc pc = .ok (.getfield index, 3))
    (kk : W p l e R s m args below meth c H locs cells slots Q (F0 m (pc + 3) ls (v :: rest))) : W p l e R s m args below meth c H locs cells slots Q (F0 m pc ls (.ref a :: rest)) :=
  va_get (D := G.1) X.1 X.2.1 X.2.2.2.2.1 hin X.2.2.2.1 E.1 hI.1 q0 he hc k hk (X.2.2.2.2.1 _ hl) (fun _ h => h) hv hdg kk
theorem x_put (X : CX own cc nL rt p s m args meth c) (E : EX G A s) (hI : IN A G w s H locs) {C : String} {T : u_T} {N ci index : Nat} (hin : ∀ w ∈ u_ws C T N, w ∈ qt) (ty0 : Nat → FieldType) (hty : ∀ k, k < N → parseFieldDescriptor (T k).2.2.1 = some (ty0 k)) (hnm : ∀ a, a < N → ∀ b, b < N → a ≠ b → (T a).2.1 ≠ (T b).2.1) (q0 : Nat) {fs : List Value} (he : w[q0]? = some (a, .inr (ci, fs))) (hc : vwCl[ci]? = some (C, T, N)) (k : Nat) (hk : k < N) (hl : Cond.fieldLink own index (T k).1 (T k).2.1 (T k).2.2.1 ∈ qt) (hfin : (T k).2.2.2 = false) {v : Value} (hn : narrow (ty0 k) v = v) (hfit : fits (ty0 k) v = true) (hlen : k < fs.length) {w' : va_W} (hw : w.set q0 (a, .inr (ci, fs.set k v)) = w') (hdg : decode cc pc = .ok (.putfield index, 3))
    (kk : ∀ (H : Heap) (locs : List Loc), IN A G w' s H locs → W p l e R s m args below meth c H locs cells slots Q (F0 m (pc + 3) ls rest)) : W p l e R s m args below meth c H locs cells slots Q (F0 m pc ls (v :: .ref a :: rest)) := by
  subst hw
  exact va_put (D := G.1) X.1 X.2.1 X.2.2.2.2.1 hin ty0 hty hnm X.2.2.2.1 E.1 hI.1 hI.2.1 hI.2.2 q0 he hc k hk (X.2.2.2.2.1 _ hl) (fun _ h => h) hfin (hty k hk) hn hfit hlen hdg (fun H1 l1 a1 a2 a3 => kk H1 l1 ⟨a1, a2, a3⟩)
theorem x_idiv (X : CX own cc nL rt p s m args meth c) {x y v : Int32} (h : q_dv x y = some v) (hdg : decode cc pc = .ok (.idiv, 1))
    (kk : W p l e R s m args below meth c H locs cells slots Q (F0 m (pc + 1) ls (.int v :: rest))) : W p l e R s m args below meth c H locs cells slots Q (F0 m pc ls (.int y :: .int x :: rest)) := by
  obtain ⟨h1, rfl⟩ := q_dv_i h
  exact lv_idiv X.1 X.2.1 hdg h1 kk
theorem x_irem (X : CX own cc nL rt p s m args meth c) {x y v : Int32} (h : q_rm x y = some v) (hdg : decode cc pc = .ok (.irem, 1))
    (kk : W p l e R s m args below meth c H locs cells slots Q (F0 m (pc + 1) ls (.int v :: rest))) : W p l e R s m args below meth c H locs cells slots Q (F0 m pc ls (.int y :: .int x :: rest)) := by
  obtain ⟨h1, rfl⟩ := q_rm_i h
  exact lv_irem X.1 X.2.1 hdg h1 kk
theorem x_ldiv (X : CX own cc nL rt p s m args meth c) {x y v : Int64} (h : q_ld x y = some v) (hdg : decode cc pc = .ok (.ldiv, 1))
    (kk : W p l e R s m args below meth c H locs cells slots Q (F0 m (pc + 1) ls (.long v :: rest))) : W p l e R s m args below meth c H locs cells slots Q (F0 m pc ls (.long y :: .long x :: rest)) := by
  obtain ⟨h1, rfl⟩ := q_ld_i h
  exact lv_ldiv X.1 X.2.1 hdg h1 kk
-- doubles and floats whose answer is a number
theorem x_ddiv (X : CX own cc nL rt p s m args meth c) {x y v : UInt64} (h : q_n64 (FP.ddiv x y) = some v) (hdg : decode cc pc = .ok (.ddiv, 1)) (kk : W p l e R s m args below meth c H locs cells slots Q (F0 m (pc + 1) ls (.double v :: rest))) : W p l e R s m args below meth c H locs cells slots Q (F0 m pc ls (.double y :: .double x :: rest)) := by
  obtain ⟨h1, rfl⟩ := q_n64_i h
  exact lv_ddiv X.1 X.2.1 hdg h1 kk
theorem x_dmul (X : CX own cc nL rt p s m args meth c) {x y v : UInt64} (h : q_n64 (FP.dmul x y) = some v) (hdg : decode cc pc = .ok (.dmul, 1)) (kk : W p l e R s m args below meth c H locs cells slots Q (F0 m (pc + 1) ls (.double v :: rest))) : W p l e R s m args below meth c H locs cells slots Q (F0 m pc ls (.double y :: .double x :: rest)) := by
  obtain ⟨h1, rfl⟩ := q_n64_i h
  exact lv_dmul X.1 X.2.1 hdg h1 kk
theorem x_dadd (X : CX own cc nL rt p s m args meth c) {x y v : UInt64} (h : q_n64 (FP.dadd x y) = some v) (hdg : decode cc pc = .ok (.dadd, 1)) (kk : W p l e R s m args below meth c H locs cells slots Q (F0 m (pc + 1) ls (.double v :: rest))) : W p l e R s m args below meth c H locs cells slots Q (F0 m pc ls (.double y :: .double x :: rest)) := by
  obtain ⟨h1, rfl⟩ := q_n64_i h
  exact lv_dadd X.1 X.2.1 hdg h1 kk
theorem x_dsub (X : CX own cc nL rt p s m args meth c) {x y v : UInt64} (h : q_n64 (FP.dsub x y) = some v) (hdg : decode cc pc = .ok (.dsub, 1)) (kk : W p l e R s m args below meth c H locs cells slots Q (F0 m (pc + 1) ls (.double v :: rest))) : W p l e R s m args below meth c H locs cells slots Q (F0 m pc ls (.double y :: .double x :: rest)) := by
  obtain ⟨h1, rfl⟩ := q_n64_i h
  exact lv_dsub X.1 X.2.1 hdg h1 kk
theorem x_fdiv (X : CX own cc nL rt p s m args meth c) {x y v : UInt32} (h : q_n32 (FP.fdiv x y) = some v) (hdg : decode cc pc = .ok (.fdiv, 1)) (kk : W p l e R s m args below meth c H locs cells slots Q (F0 m (pc + 1) ls (.float v :: rest))) : W p l e R s m args below meth c H locs cells slots Q (F0 m pc ls (.float y :: .float x :: rest)) := by
  obtain ⟨h1, rfl⟩ := q_n32_i h
  exact lv_fdiv X.1 X.2.1 hdg h1 kk
theorem x_fadd (X : CX own cc nL rt p s m args meth c) {x y v : UInt32} (h : q_n32 (FP.fadd x y) = some v) (hdg : decode cc pc = .ok (.fadd, 1)) (kk : W p l e R s m args below meth c H locs cells slots Q (F0 m (pc + 1) ls (.float v :: rest))) : W p l e R s m args below meth c H locs cells slots Q (F0 m pc ls (.float y :: .float x :: rest)) := by
  obtain ⟨h1, rfl⟩ := q_n32_i h
  exact lv_fadd X.1 X.2.1 hdg h1 kk
theorem x_f2d (X : CX own cc nL rt p s m args meth c) {x : UInt32} {v : UInt64} (h : q_n64 (FP.f2d x) = some v) (hdg : decode cc pc = .ok (.f2d, 1)) (kk : W p l e R s m args below meth c H locs cells slots Q (F0 m (pc + 1) ls (.double v :: rest))) : W p l e R s m args below meth c H locs cells slots Q (F0 m pc ls (.float x :: rest)) := by
  obtain ⟨h1, rfl⟩ := q_n64_i h
  exact lv_f2d X.1 X.2.1 hdg h1 kk
end ROWS
-- ===== calls =====
theorem sub_A {A : Nat → Prop} {w wc : va_W} {s : State} {H : Heap} {locs : List Loc} {G : GX} (E : EX G A s) (hI : IN A G w s H locs) (hsub : ∀ (k : Nat) (q : Nat × va_E), wc[k]? = some q → ∃ i : Nat, w[i]? = some q) : ∀ q : Nat, va_A wc H.size q → A q := by
  intro q h
  rcases h with ⟨k, ec, h⟩ | h
  · obtain ⟨i, hi⟩ := hsub k _ h
    exact hI.2.1.2 i _ hi
  · exact E.2.1 q (Nat.le_trans hI.2.2.1 h)
theorem pr_blind {G : GX} {w : va_W} {av : List Value} {sz : Nat} : FrameBlind (PR G w av sz) := by
  intro a U g mk h
  obtain ⟨h0, h1, h2, h3, h4, h5⟩ := h
  exact ⟨h0, h1, h2, h3, va_K.moved (u := U) (U := U.calling g mk a) (Vm.Alike.refl U.vm) h4, h5.same (u := U) (U := U.calling g mk a) rfl⟩
/-- the callee's start out of the caller's state -/
theorem pr_of {A : Nat → Prop} {w wc : va_W} {s : State} {H : Heap} {locs : List Loc} {G : GX} {av : List Value} (E : EX G A s) (hI : IN A G w s H locs) (hPc : va_P G.1 vwCl wc H) (hDc : va_D (fun _ => True) wc) (hA : ∀ q : Nat, va_A wc H.size q → A q) : ∀ U : State, U.heap = H → s.WarmedH U.vm → PR G wc av H.size av.toArray U := by
  intro U hU hW
  refine ⟨rfl, by rw [hU], by rw [hU]; exact hPc, hDc, va_K.moved hW.alike E.1, ?_⟩
  rw [hU]
  exact ((E.2.2.kept hI.2.2.2.1).narrow hA).warm hW
theorem q_Psub {D : va_G} {cl : List vw_C} {ws ws' : va_W} {H : Heap} (h : va_P D cl ws H) (is : List Nat) (hs : is.map (fun i => ws[i]?) = ws'.map some) : va_P D cl ws' H := by
  intro k q hk
  have h1 : (is.map (fun i => ws[i]?))[k]? = some (some q) := by rw [hs, List.getElem?_map, hk]; rfl
  rw [List.getElem?_map] at h1
  cases hi : is[k]? with
  | none => rw [hi] at h1; cases h1
  | some i => rw [hi] at h1; exact h i q (Option.some.inj h1)
section CALLS
variable {p : Program} {l : Launch} {e : Env} {R : Room} {s : State} {m : MethodId} {args : Array Value} {below : List Frame} {meth : Method} {c : Code} {H : Heap} {locs : List Loc} {cells slots : Nat} {Q : State → Prop}
variable {own : String} {cc : ByteArray} {nL : Nat} {rt : Option FieldType} {G : GX} {A : Nat → Prop} {w wc wr w1 w2 : va_W} {pc : Nat} {ls : Array Slot} {rest st0 : List Value} {a : Nat} {mc ms : Nat}
variable {y : MethodName} {cy : ByteArray} {ny index n : Nat} {ry : Option FieldType} {rm : Room} {av : List Value} {v : Option Value} {st1 : List Value}
theorem x_runS (X : CX own cc nL rt p s m args meth c) (E : EX G A s) (hI : IN A G w s H locs) (hM : MX l y cy ny ry rm G wc av w1 v mc ms) (hk : GoodIn qt (va_wsS own index y (.code y cy ny ry :: qt)))
    (hd : y.cls ≠ "java/lang/invoke/MethodHandle" ∧ y.cls ≠ "java/lang/invoke/VarHandle" ∧ (parseMethodDescriptor y.desc).map (fun d => d.parameters.length) = some n) (hrm : rm.cells = mc ∧ rm.slots = ms) (hR : rm.frames + 1 ≤ R.frames ∧ 8 + (ny + 11) + rm.locals ≤ R.locals)
    (hPc : va_P G.1 vwCl wc H) (hDc : va_D (fun _ => True) wc) (hA : ∀ q : Nat, va_A wc H.size q → A q) (hav : av.length = n) (hls : ls.size = nL) (hst : st0 = av.reverse ++ rest) (hrest : (rest.map fun v => v.category).sum ≤ 8) (hdg : decode cc pc = .ok (.invokestatic index, 3)) (hf : cells + mc ≤ R.cells ∧ slots + ms ≤ R.slots) :
    va_Run p l e R s m args below meth c H locs cells slots mc ms (F0 m pc ls st0) rest (QX G (va_A wc H.size) w1 v av.toArray) (va_A wc H.size) :=
  va_runS (As := av) (n := n) (own := own) (index := index) (bytes := cy) (maxL := ny) (ret := ry) (nL := nL) ⟨X.1, X.2.1, X.2.2.1, X.2.2.2.1, X.2.2.2.2.1⟩ (hM H.size) (va_cwS n X.2.2.2.2.1 hk rfl hrm.1 hrm.2 hd hR) ⟨pr_blind, pr_of E hI hPc hDc hA⟩ rfl hav hls hst (lv_room hrest) hdg hf
theorem x_runV (X : CX own cc nL rt p s m args meth c) (E : EX G A s) (hI : IN A G w s H locs) {C : String} (hM : MX l y cy ny ry rm G wc (.ref a :: av) w1 v mc ms) (hk : GoodIn qt (wsV own index C y (.code y cy ny ry :: qt)))
    (hd : y.cls = C ∧ y.cls ≠ "java/lang/invoke/MethodHandle" ∧ y.cls ≠ "java/lang/invoke/VarHandle" ∧ (parseMethodDescriptor y.desc).map (fun d => d.parameters.length) = some n) (hrm : rm.cells = mc ∧ rm.slots = ms) (hR : rm.frames + 1 ≤ R.frames ∧ 8 + (ny + 11) + rm.locals ≤ R.locals)
    {ci q0 : Nat} {q : vw_C} {fs : List Value} (hc : vwCl[ci]? = some q) (hC : q.1 = C) (he : wc[q0]? = some (a, .inr (ci, fs)))
    (hPc : va_P G.1 vwCl wc H) (hDc : va_D (fun _ => True) wc) (hA : ∀ q : Nat, va_A wc H.size q → A q) (hav : av.length = n) (hls : ls.size = nL) (hst : st0 = av.reverse ++ .ref a :: rest) (hrest : (rest.map fun v => v.category).sum ≤ 8) (hdg : decode cc pc = .ok (.invokevirtual index, 3)) (hf : cells + mc ≤ R.cells ∧ slots + ms ≤ R.slots) :
    va_Run p l e R s m args below meth c H locs cells slots mc ms (F0 m pc ls st0) rest (QX G (va_A wc H.size) w1 v (Value.ref a :: av).toArray) (va_A wc H.size) := by
  subst hC
  exact va_runV (As := av) (n := n) (own := own) (index := index) (bytes := cy) (maxL := ny) (ret := ry) (nL := nL) ⟨X.1, X.2.1, X.2.2.1, X.2.2.2.1, X.2.2.2.2.1⟩ (hM H.size) (cwV n X.2.2.2.2.1 hk rfl hrm.1 hrm.2 hd hR) ⟨pr_blind, va_recv E.1 hPc hc he, pr_of E hI hPc hDc hA⟩ rfl hav hls hst (lv_room hrest) hdg hf
/-- behind a call, whatever it answers -/
theorem x_back {v : Option Value} {av : Array Value} (hr : va_Run p l e R s m args below meth c H locs cells slots mc ms (F0 m pc ls st0) rest (QX G (va_A wc H.size) w1 v av) (va_A wc H.size)) (hI : IN A G w s H locs) (hA : ∀ q : Nat, va_A wc H.size q → A q)
    (kk : ∀ (H1 : Heap) (locs1 : List Loc), va_P G.1 vwCl w1 H1 → va_D (va_A wc H.size) w1 → H.size ≤ H1.size → (∀ q : Nat, q < H.size → ¬ va_A wc H.size q → H1[q]? = H[q]?) → va_S A s.heap H1 locs1 → W p l e R s m args below meth c H1 locs1 (cells + mc) (slots + ms) Q (F0 m (pc + 3) ls (v.toList ++ rest))) : W p l e R s m args below meth c H locs cells slots Q (F0 m pc ls st0) := by
  intro T hT X
  obtain ⟨v', st₀, t, T', L, h0, X', hL, e1, e2, ⟨⟨hv, hp, hd⟩, hz, hk⟩, st⟩ := hr T hT X
  cases hv
  rw [h0] at hz hk
  obtain ⟨t2, a1, b1⟩ := kk T'.heap (locs ++ L) (by rw [e1]; exact hp) hd (by rw [e1]; exact hz) (fun q h1 h2 => by rw [e1]; exact hk q h1 h2)
    ⟨Nat.le_trans hI.2.2.1 (by rw [e1]; exact hz), fun q h1 h2 => by rw [e1, hk q (Nat.lt_of_lt_of_le h1 hI.2.2.1) (fun z => h2 (hA q z))]; exact hI.2.2.2.1 q h1 h2, fun q hq => by
      rcases List.mem_append.mp hq with h | h
      · exact hI.2.2.2.2 q h
      · exact hA _ (hL q h)⟩ T' rfl X'
  exact ⟨t2, st t2 a1, b1⟩
/-- the same world -/
theorem x_same {v : Option Value} {av : Array Value} (E : EX G A s) (hI : IN A G w s H locs) (hr : va_Run p l e R s m args below meth c H locs cells slots mc ms (F0 m pc ls st0) rest (QX G (va_A w H.size) w1 v av) (va_A w H.size))
    (kk : ∀ (H : Heap) (locs : List Loc), IN A G w1 s H locs → W p l e R s m args below meth c H locs (cells + mc) (slots + ms) Q (F0 m (pc + 3) ls (v.toList ++ rest))) : W p l e R s m args below meth c H locs cells slots Q (F0 m pc ls st0) := by
  have hA := sub_A (wc := w) E hI (fun k q h => ⟨k, h⟩)
  exact x_back hr hI hA (fun H1 locs1 hp hd _ _ hS => kk H1 locs1 ⟨hp, hd.weaken (fun k q _ h => hA q.1 h), hS⟩)
/-- a method without a world -/
theorem x_none {v : Option Value} {av : Array Value} (E : EX G A s) (hI : IN A G w s H locs) (hr : va_Run p l e R s m args below meth c H locs cells slots mc ms (F0 m pc ls st0) rest (QX G (va_A [] H.size) [] v av) (va_A [] H.size))
    (kk : ∀ (H : Heap) (locs : List Loc), IN A G w s H locs → W p l e R s m args below meth c H locs (cells + mc) (slots + ms) Q (F0 m (pc + 3) ls (v.toList ++ rest))) : W p l e R s m args below meth c H locs cells slots Q (F0 m pc ls st0) := by
  have hA := sub_A (wc := []) E hI (fun k q h => by simp at h)
  refine x_back hr hI hA (fun H1 locs1 _ _ _ hk hS => kk H1 locs1 ⟨fun k q hq => ?_, hI.2.1, hS⟩)
  have hl := (hI.1 k q hq).lt
  refine (hI.1 k q hq).kept (hk q.1 hl ?_)
  rintro (⟨k2, e2, h⟩ | h)
  · simp at h
  · omega
/-- a part of the world: cut out by places, put back beside the rest, in the order that is wanted -/
theorem x_part {v : Option Value} {av : Array Value} (E : EX G A s) (hI : IN A G w s H locs) (isC isR ps : List Nat) (hC : isC.map (fun i => w[i]?) = wc.map some) (hR : isR.map (fun i => w[i]?) = wr.map some) (hn : va_nd isR = true) (hdis : ∀ i ∈ isR, i ∉ isC) (hq : ps.map (fun i => (wr ++ w1)[i]?) = w2.map some) (hnq : va_nd ps = true)
    (hr : va_Run p l e R s m args below meth c H locs cells slots mc ms (F0 m pc ls st0) rest (QX G (va_A wc H.size) w1 v av) (va_A wc H.size))
    (kk : ∀ (H : Heap) (locs : List Loc), IN A G w2 s H locs → W p l e R s m args below meth c H locs (cells + mc) (slots + ms) Q (F0 m (pc + 3) ls (v.toList ++ rest))) : W p l e R s m args below meth c H locs cells slots Q (F0 m pc ls st0) := by
  have hA := va_free (wc := wc) hI.2.1 hI.2.2 E.2.1 isC hC
  refine x_back hr hI hA (fun H1 locs1 hp hd _ hk hS => ?_)
  obtain ⟨hP, hD⟩ := va_join (wr := wr) (w1 := w1) hI.1 hI.2.1 isC isR hC hR hn hdis hk hA hp hd
  exact kk H1 locs1 ⟨q_Psub hP ps hq, hD.sub ps hnq hq, hS⟩
theorem q_Pnil {D : va_G} {cl : List vw_C} {H : Heap} : va_P D cl [] H := fun k q h => by simp at h
theorem q_Dnil {B : Nat → Prop} : va_D B [] := ⟨fun i j p q h => by simp at h, fun k q h => by simp at h⟩
/-- a static method without a world -/
theorem x_cSn (X : CX own cc nL rt p s m args meth c) (E : EX G A s) (hI : IN A G w s H locs) (hM : MX l y cy ny ry rm G [] av [] v 0 0) (hk : GoodIn qt (va_wsS own index y (.code y cy ny ry :: qt)))
    (hd : y.cls ≠ "java/lang/invoke/MethodHandle" ∧ y.cls ≠ "java/lang/invoke/VarHandle" ∧ (parseMethodDescriptor y.desc).map (fun d => d.parameters.length) = some n) (hrm : rm.cells = 0 ∧ rm.slots = 0) (hR : rm.frames + 1 ≤ R.frames ∧ 8 + (ny + 11) + rm.locals ≤ R.locals)
    (hav : av.length = n) (hls : ls.size = nL) (hst : st0 = av.reverse ++ rest) (hrest : (rest.map fun v => v.category).sum ≤ 8) (hdg : decode cc pc = .ok (.invokestatic index, 3)) (hf : cells + 0 ≤ R.cells ∧ slots + 0 ≤ R.slots) (h1 : v.toList ++ rest = st1)
    (kk : ∀ (H : Heap) (locs : List Loc), IN A G w s H locs → W p l e R s m args below meth c H locs cells slots Q (F0 m (pc + 3) ls st1)) : W p l e R s m args below meth c H locs cells slots Q (F0 m pc ls st0) := by
  subst h1
  exact x_none E hI (x_runS X E hI hM hk hd hrm hR q_Pnil q_Dnil (sub_A (wc := []) E hI (fun k q h => by simp at h)) hav hls hst hrest hdg hf) kk
/-- a static method with the same world -/
theorem x_cSs (X : CX own cc nL rt p s m args meth c) (E : EX G A s) (hI : IN A G w s H locs) (hM : MX l y cy ny ry rm G w av w1 v mc ms) (hk : GoodIn qt (va_wsS own index y (.code y cy ny ry :: qt)))
    (hd : y.cls ≠ "java/lang/invoke/MethodHandle" ∧ y.cls ≠ "java/lang/invoke/VarHandle" ∧ (parseMethodDescriptor y.desc).map (fun d => d.parameters.length) = some n) (hrm : rm.cells = mc ∧ rm.slots = ms) (hR : rm.frames + 1 ≤ R.frames ∧ 8 + (ny + 11) + rm.locals ≤ R.locals)
    (hav : av.length = n) (hls : ls.size = nL) (hst : st0 = av.reverse ++ rest) (hrest : (rest.map fun v => v.category).sum ≤ 8) (hdg : decode cc pc = .ok (.invokestatic index, 3)) (hf : cells + mc ≤ R.cells ∧ slots + ms ≤ R.slots) (h1 : v.toList ++ rest = st1)
    (kk : ∀ (H : Heap) (locs : List Loc), IN A G w1 s H locs → W p l e R s m args below meth c H locs (cells + mc) (slots + ms) Q (F0 m (pc + 3) ls st1)) : W p l e R s m args below meth c H locs cells slots Q (F0 m pc ls st0) := by
  subst h1
  exact x_same E hI (x_runS X E hI hM hk hd hrm hR hI.1 (hI.2.1.weaken (fun _ _ _ _ => trivial)) (sub_A (wc := w) E hI (fun k q h => ⟨k, h⟩)) hav hls hst hrest hdg hf) kk
/-- a method with the same world -/
theorem x_cVs (X : CX own cc nL rt p s m args meth c) (E : EX G A s) (hI : IN A G w s H locs) {C : String} (hM : MX l y cy ny ry rm G w (.ref a :: av) w1 v mc ms) (hk : GoodIn qt (wsV own index C y (.code y cy ny ry :: qt)))
    (hd : y.cls = C ∧ y.cls ≠ "java/lang/invoke/MethodHandle" ∧ y.cls ≠ "java/lang/invoke/VarHandle" ∧ (parseMethodDescriptor y.desc).map (fun d => d.parameters.length) = some n) (hrm : rm.cells = mc ∧ rm.slots = ms) (hR : rm.frames + 1 ≤ R.frames ∧ 8 + (ny + 11) + rm.locals ≤ R.locals)
    {ci : Nat} (q0 : Nat) {q : vw_C} {fs : List Value} (hc : vwCl[ci]? = some q) (hC : q.1 = C) (he : w[q0]? = some (a, .inr (ci, fs)))
    (hav : av.length = n) (hls : ls.size = nL) (hst : st0 = av.reverse ++ .ref a :: rest) (hrest : (rest.map fun v => v.category).sum ≤ 8) (hdg : decode cc pc = .ok (.invokevirtual index, 3)) (hf : cells + mc ≤ R.cells ∧ slots + ms ≤ R.slots) (h1 : v.toList ++ rest = st1)
    (kk : ∀ (H : Heap) (locs : List Loc), IN A G w1 s H locs → W p l e R s m args below meth c H locs (cells + mc) (slots + ms) Q (F0 m (pc + 3) ls st1)) : W p l e R s m args below meth c H locs cells slots Q (F0 m pc ls st0) := by
  subst h1
  exact x_same E hI (x_runV X E hI hM hk hd hrm hR hc hC he hI.1 (hI.2.1.weaken (fun _ _ _ _ => trivial)) (sub_A (wc := w) E hI (fun k q h => ⟨k, h⟩)) hav hls hst hrest hdg hf) kk
/-- a method whose world is a part of the caller's: which part (PT), and how it is put back (PQ) -/
def PT (w wc : va_W) (isC isR : List Nat) : Prop := isC.map (fun i => w[i]?) = wc.map some ∧ isR.map (fun i => w[i]?) = (isR.filterMap (fun i => w[i]?)).map some ∧ va_nd isR = true ∧ va_nd isC = true ∧ ∀ i ∈ isR, i ∉ isC
def PQ (w w1 w2 : va_W) (isR ps : List Nat) : Prop := ps.map (fun i => ((isR.filterMap (fun i => w[i]?)) ++ w1)[i]?) = w2.map some ∧ va_nd ps = true
theorem x_cVp (X : CX own cc nL rt p s m args meth c) (E : EX G A s) (hI : IN A G w s H locs) {C : String} (hM : MX l y cy ny ry rm G wc (.ref a :: av) w1 v mc ms) (hk : GoodIn qt (wsV own index C y (.code y cy ny ry :: qt)))
    (hd : y.cls = C ∧ y.cls ≠ "java/lang/invoke/MethodHandle" ∧ y.cls ≠ "java/lang/invoke/VarHandle" ∧ (parseMethodDescriptor y.desc).map (fun d => d.parameters.length) = some n) (hrm : rm.cells = mc ∧ rm.slots = ms) (hR : rm.frames + 1 ≤ R.frames ∧ 8 + (ny + 11) + rm.locals ≤ R.locals)
    {isC isR ps : List Nat} (hpt : PT w wc isC isR) (hpq : PQ w w1 w2 isR ps)
    {ci : Nat} (q0 : Nat) {q : vw_C} {fs : List Value} (hc : vwCl[ci]? = some q) (hC : q.1 = C) (he : wc[q0]? = some (a, .inr (ci, fs)))
    (hav : av.length = n) (hls : ls.size = nL) (hst : st0 = av.reverse ++ .ref a :: rest) (hrest : (rest.map fun v => v.category).sum ≤ 8) (hdg : decode cc pc = .ok (.invokevirtual index, 3)) (hf : cells + mc ≤ R.cells ∧ slots + ms ≤ R.slots) (h1 : v.toList ++ rest = st1)
    (kk : ∀ (H : Heap) (locs : List Loc), IN A G w2 s H locs → W p l e R s m args below meth c H locs (cells + mc) (slots + ms) Q (F0 m (pc + 3) ls st1)) : W p l e R s m args below meth c H locs cells slots Q (F0 m pc ls st0) := by
  subst h1
  obtain ⟨hC1, hR1, hn1, hn2, hdis⟩ := hpt
  exact x_part E hI isC isR ps hC1 hR1 hn1 hdis hpq.1 hpq.2 (x_runV X E hI hM hk hd hrm hR hc hC he (q_Psub hI.1 isC hC1) ((hI.2.1.sub isC hn2 hC1).weaken (fun _ _ _ _ => trivial)) (va_free (wc := wc) hI.2.1 hI.2.2 E.2.1 isC hC1) hav hls hst hrest hdg hf) kk
theorem x_cSp (X : CX own cc nL rt p s m args meth c) (E : EX G A s) (hI : IN A G w s H locs) (hM : MX l y cy ny ry rm G wc av w1 v mc ms) (hk : GoodIn qt (va_wsS own index y (.code y cy ny ry :: qt)))
    (hd : y.cls ≠ "java/lang/invoke/MethodHandle" ∧ y.cls ≠ "java/lang/invoke/VarHandle" ∧ (parseMethodDescriptor y.desc).map (fun d => d.parameters.length) = some n) (hrm : rm.cells = mc ∧ rm.slots = ms) (hR : rm.frames + 1 ≤ R.frames ∧ 8 + (ny + 11) + rm.locals ≤ R.locals)
    {isC isR ps : List Nat} (hpt : PT w wc isC isR) (hpq : PQ w w1 w2 isR ps)
    (hav : av.length = n) (hls : ls.size = nL) (hst : st0 = av.reverse ++ rest) (hrest : (rest.map fun v => v.category).sum ≤ 8) (hdg : decode cc pc = .ok (.invokestatic index, 3)) (hf : cells + mc ≤ R.cells ∧ slots + ms ≤ R.slots) (h1 : v.toList ++ rest = st1)
    (kk : ∀ (H : Heap) (locs : List Loc), IN A G w2 s H locs → W p l e R s m args below meth c H locs (cells + mc) (slots + ms) Q (F0 m (pc + 3) ls st1)) : W p l e R s m args below meth c H locs cells slots Q (F0 m pc ls st0) := by
  subst h1
  obtain ⟨hC1, hR1, hn1, hn2, hdis⟩ := hpt
  exact x_part E hI isC isR ps hC1 hR1 hn1 hdis hpq.1 hpq.2 (x_runS X E hI hM hk hd hrm hR (q_Psub hI.1 isC hC1) ((hI.2.1.sub isC hn2 hC1).weaken (fun _ _ _ _ => trivial)) (va_free (wc := wc) hI.2.1 hI.2.2 E.2.1 isC hC1) hav hls hst hrest hdg hf) kk
end CALLS
