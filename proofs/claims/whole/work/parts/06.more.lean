-- ===== fuel, copies of rows, the static table =====
section MORE
variable {p : Program} {l : Launch} {e : Env} {R : Room} {s : State} {m : MethodId} {args : Array Value} {below : List Frame} {meth : Method} {c : Code} {H : Heap} {locs : List Loc} {cells slots : Nat} {Q : State → Prop}
variable {own : String} {cc : ByteArray} {nL : Nat} {rt : Option FieldType} {G : GX} {A : Nat → Prop} {w : va_W} {pc : Nat} {ls : Array Slot} {rest : List Value} {a : Nat}
theorem x_tald (X : CX own cc nL rt p s m args meth c) (E : EX G A s) (hI : IN A G w s H locs) {i v : Int32} (h : q_rd q_cyI 7 i = some v) (hdg : decode cc pc = .ok (.iaload, 1))
    (kk : W p l e R s m args below meth c H locs cells slots Q (F0 m (pc + 1) ls (.int v :: rest))) : W p l e R s m args below meth c H locs cells slots Q (F0 m pc ls (.int i :: .ref G.2.2 :: rest)) := by
  obtain ⟨h1, rfl⟩ := q_rd_i h
  exact va_ti X.1 X.2.1 E.2.2.2.1 hI.2.2 h1 rfl hdg kk
theorem x_copyi (X : CX own cc nL rt p s m args meth c) (E : EX G A s) (hI : IN A G w s H locs) {index : Nat} (hl : Cond.methodLink own index arraycopyName ∈ qt) (q0 q1 : Nat) {a0 n0 n1 : Nat} {f g r : Nat → Int32} (ha0 : w[q0]? = some (a0, .inl (G.2.1.1, n0, .inl f))) (ha1 : w[q1]? = some (a, .inl (G.2.1.1, n1, .inl g))) {sp dp n : Int32} (h : q_cp f g n0 n1 sp dp n = some r) {w' : va_W} (hw : w.set q1 (a, .inl (G.2.1.1, n1, .inl r)) = w') (hframes : 1 ≤ R.frames) (hlocals : (rest.map fun v => v.category).sum + (nativeFrameWords "java/lang/System" "arraycopy" 5 + 11) ≤ R.locals) (hls : ls.size = nL) (hdg : decode cc pc = .ok (.invokestatic index, 3))
    (kk : ∀ (H : Heap) (locs : List Loc), IN A G w' s H locs → W p l e R s m args below meth c H locs cells slots Q (F0 m (pc + 3) ls rest)) : W p l e R s m args below meth c H locs cells slots Q (F0 m pc ls (.int n :: .int dp :: .ref a :: .int sp :: .ref a0 :: rest)) := by
  obtain ⟨⟨h1, h2, h3, h4, h5⟩, rfl⟩ := q_cp_i h
  subst hw
  exact va_copyi X.1 X.2.1 (X.2.2.1.trans hls.symm) X.2.2.2.1 (X.2.2.2.2.1 _ hl) (X.2.2.2.2.1 _ sw_acNat) (X.2.2.2.2.1 _ sw_acStat) (X.2.2.2.2.1 _ sw_acInit) E.1 hI.1 hI.2.1 hI.2.2 q0 q1 0 0 ha0 ha1 (ty := .int) rfl rfl rfl h1 h2 h3 h4 h5 (fun _ _ => rfl) hframes hlocals hdg (fun H1 l1 a1 a2 a3 => kk H1 l1 ⟨a1, a2, a3⟩)
theorem x_copyl (X : CX own cc nL rt p s m args meth c) (E : EX G A s) (hI : IN A G w s H locs) {index : Nat} (hl : Cond.methodLink own index arraycopyName ∈ qt) (q0 q1 : Nat) {a0 n0 n1 : Nat} {f g r : Nat → Int64} (ha0 : w[q0]? = some (a0, .inl (G.2.1.2.2.1, n0, .inr (.inl f)))) (ha1 : w[q1]? = some (a, .inl (G.2.1.2.2.1, n1, .inr (.inl g)))) {sp dp n : Int32} (h : q_cp f g n0 n1 sp dp n = some r) {w' : va_W} (hw : w.set q1 (a, .inl (G.2.1.2.2.1, n1, .inr (.inl r))) = w') (hframes : 1 ≤ R.frames) (hlocals : (rest.map fun v => v.category).sum + (nativeFrameWords "java/lang/System" "arraycopy" 5 + 11) ≤ R.locals) (hls : ls.size = nL) (hdg : decode cc pc = .ok (.invokestatic index, 3))
    (kk : ∀ (H : Heap) (locs : List Loc), IN A G w' s H locs → W p l e R s m args below meth c H locs cells slots Q (F0 m (pc + 3) ls rest)) : W p l e R s m args below meth c H locs cells slots Q (F0 m pc ls (.int n :: .int dp :: .ref a :: .int sp :: .ref a0 :: rest)) := by
  obtain ⟨⟨h1, h2, h3, h4, h5⟩, rfl⟩ := q_cp_i h
  subst hw
  exact va_copyl X.1 X.2.1 (X.2.2.1.trans hls.symm) X.2.2.2.1 (X.2.2.2.2.1 _ hl) (X.2.2.2.2.1 _ sw_acNat) (X.2.2.2.2.1 _ sw_acStat) (X.2.2.2.2.1 _ sw_acInit) E.1 hI.1 hI.2.1 hI.2.2 q0 q1 2 2 ha0 ha1 (ty := .long) rfl rfl rfl h1 h2 h3 h4 h5 (fun _ _ => rfl) hframes hlocals hdg (fun H1 l1 a1 a2 a3 => kk H1 l1 ⟨a1, a2, a3⟩)
theorem q_ldcwS {T : State} (X : Stand p l e R s m args below meth c T locs cells slots) (hexec : p.tables.exec = Jvm.exec) {index : Nat} {v : UInt32} (hown : s.vm.findClass own = some m.cls) (hconst : (Cond.constantFloat own index v).before args s = true) {g : JFrame} (hg : g.method = m) (hdg : decode c.code g.pc = .ok (.ldc_w index, 3)) :
    ∀ target, Steps p.tables e below (T.setTop { g with pc := g.pc + 3, stack := .float v :: g.stack }) target → Steps p.tables e below (T.setTop g) target := by
  obtain ⟨k, cf, hk, hcf, hcp⟩ := Cond.constantFloat_spec hown hconst
  obtain ⟨k', hk', he⟩ := X.warmed.alike.2.2 _ _ hk
  intro target hrest
  subst hg
  jvm_step X.here [hexec, hdg, ldc_w.wp_float (s := T) (f := g) X.here.top hk' (by rw [he]; exact hcf) hcp]
  exact hrest
theorem q_ldcwf (hexec : p.tables.exec = Jvm.exec) (hb : c.code = cc) {index : Nat} {v : UInt32} (hown : s.vm.findClass own = some m.cls) (hconst : (Jvm.Cond.constantFloat own index v).before args s = true) (hdg : decode cc pc = .ok (.ldc_w index, 3)) (k : W p l e R s m args below meth c H locs cells slots Q (F0 m (pc + 3) ls (.float v :: rest))) : W p l e R s m args below meth c H locs cells slots Q (F0 m pc ls rest) := by
  intro T hT X
  obtain ⟨t, a, b⟩ := k T hT X
  exact ⟨t, q_ldcwS X hexec hown hconst (g := F0 m pc ls rest) rfl (by rw [hb]; exact hdg) t a, b⟩
end MORE
-- ===== switches: which numbers are left for the default =====
theorem q_minc : Cond.code Lib.Math.min.name Lib.Math.min.code 2 (some .int) ∈ qt := sw_minCode
