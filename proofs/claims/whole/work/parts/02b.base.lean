section tmW
variable {p : Program} {l : Launch} {e : Env} {R : Room} {s : State} {m : MethodId} {args : Array Value} {below : List Frame} {meth : Method} {c : Code} {H : Heap} {locs : List Loc} {cells slots : Nat} {Q : State → Prop}
variable {cc : ByteArray} {pc : Nat} {ls : Array Slot} {rest : List Value} {D : va_G} {cl : List vw_C} {A : Nat → Prop} {a : Nat} {tys : List (ClassId × FieldType)} {ws : va_W} {H0 : Heap}

theorem tm_put {M : Type} (hexec : p.tables.exec = Jvm.exec) (hb : c.code = cc) {own ref C : String} {T : u_T} {N ci index : Nat} {Ts : List Cond} (hts : ∀ w ∈ Ts, w.before args s = true) (hin : ∀ w ∈ u_ws C T N, w ∈ Ts) (ty0 : Nat → FieldType) (hty : ∀ k, k < N → parseFieldDescriptor (T k).2.2.1 = some (ty0 k)) (hnm : ∀ a, a < N → ∀ b, b < N → a ≠ b → (T a).2.1 ≠ (T b).2.1) (hown : s.vm.findClass own = some m.cls) (hK : va_K D cl tys s) (hP : va_P D cl ws H) (hD : va_D A ws) (hS0 : va_S A H0 H locs) (q0 : Nat) {fs : List Value} (he : ws[q0]? = some (a, .inr (ci, fs))) (hc : cl[ci]? = some (C, T, N)) (k : Nat) (hk : k < N) (hlink : (Cond.fieldLink own index ref (T k).2.1 (T k).2.2.1).before args s = true) (hsame : ∀ x, s.fieldFound? (T k).1 (T k).2.1 (T k).2.2.1 = some x → s.fieldFound? ref (T k).2.1 (T k).2.2.1 = some x) (hfin : (T k).2.2.2 = false) {ty : FieldType} {v : Value} (hd : parseFieldDescriptor (T k).2.2.1 = some ty) (hn : narrow ty v = v) (hfit : fits ty v = true) (hl : k < fs.length)
    (hdg : decode cc pc = .ok (.putfield index, 3)) (Wf : M → va_W) (x : M) (hw : ws.set q0 (a, .inr (ci, fs.set k v)) = Wf x) (kk : ∀ z, z = x → ∀ (H1 : Heap) (locs1 : List Loc), va_P D cl (Wf z) H1 → va_D A (Wf z) → va_S A H0 H1 locs1 → W p l e R s m args below meth c H1 locs1 cells slots Q (F0 m (pc + 3) ls rest)) : W p l e R s m args below meth c H locs cells slots Q (F0 m pc ls (v :: .ref a :: rest)) :=
  va_put hexec hb hts hin ty0 hty hnm hown hK hP hD hS0 q0 he hc k hk hlink hsame hfin hd hn hfit hl hdg (fun H1 locs1 h1 h2 h3 => kk x rfl H1 locs1 (hw ▸ h1) (hw ▸ h2) h3)
theorem tm_iast {M : Type} (hexec : p.tables.exec = Jvm.exec) (hb : c.code = cc) (hK : va_K D cl tys s) (hP : va_P D cl ws H) (hD : va_D A ws) (hS : va_S A H0 H locs) (q0 t0 : Nat) {cA : ClassId} {n : Nat} {f : Nat → Int32} (ha : ws[q0]? = some (a, .inl (cA, n, .inl f))) (ht : tys[t0]? = some (cA, .int)) {i : Int32} {x : Int32} (hin : vp_in i n) (hdg : decode cc pc = .ok (.iastore, 1))
    (Wf : M → va_W) (y : M) (hw : ws.set q0 (a, .inl (cA, n, .inl (upd f i.toNatClampNeg x))) = Wf y) (kk : ∀ z, z = y → ∀ (H1 : Heap) (locs1 : List Loc), va_P D cl (Wf z) H1 → va_D A (Wf z) → va_S A H0 H1 locs1 → W p l e R s m args below meth c H1 locs1 cells slots Q (F0 m (pc + 1) ls rest)) : W p l e R s m args below meth c H locs cells slots Q (F0 m pc ls (.int x :: .int i :: .ref a :: rest)) :=
  va_iast hexec hb hK hP hD hS q0 t0 ha ht hin hdg (fun H1 locs1 h1 h2 h3 => kk y rfl H1 locs1 (hw ▸ h1) (hw ▸ h2) h3)
theorem tm_zast {M : Type} (hexec : p.tables.exec = Jvm.exec) (hb : c.code = cc) (hK : va_K D cl tys s) (hP : va_P D cl ws H) (hD : va_D A ws) (hS : va_S A H0 H locs) (q0 t0 : Nat) {cA : ClassId} {n : Nat} {f : Nat → Int32} (ha : ws[q0]? = some (a, .inl (cA, n, .inl f))) (ht : tys[t0]? = some (cA, .boolean)) {i : Int32} {x : Int32} (hin : vp_in i n) (hdg : decode cc pc = .ok (.bastore, 1))
    (Wf : M → va_W) (y : M) (hw : ws.set q0 (a, .inl (cA, n, .inl (upd f i.toNatClampNeg (vp_nar .boolean x)))) = Wf y) (kk : ∀ z, z = y → ∀ (H1 : Heap) (locs1 : List Loc), va_P D cl (Wf z) H1 → va_D A (Wf z) → va_S A H0 H1 locs1 → W p l e R s m args below meth c H1 locs1 cells slots Q (F0 m (pc + 1) ls rest)) : W p l e R s m args below meth c H locs cells slots Q (F0 m pc ls (.int x :: .int i :: .ref a :: rest)) :=
  va_zast hexec hb hK hP hD hS q0 t0 ha ht hin hdg (fun H1 locs1 h1 h2 h3 => kk y rfl H1 locs1 (hw ▸ h1) (hw ▸ h2) h3)
theorem tm_fitI (v : Int32) : fits .int (.int v) = true := rfl
theorem tm_copy {M : Type} (hexec : p.tables.exec = Jvm.exec) (hb : c.code = cc) (hml : c.maxLocals = ls.size) {own : String} {index : Nat} (hown : s.vm.findClass own = some m.cls) (hlink : (Cond.methodLink own index arraycopyName).before args s = true) (hnat : (Cond.native arraycopyName).before args s = true) (hstat : (Cond.static arraycopyName).before args s = true) (hini : (Cond.initialized "java/lang/System").before args s = true)
    (hK : va_K D cl tys s) (hP : va_P D cl ws H) (hD : va_D A ws) (hS : va_S A H0 H locs) (q0 q1 t0 : Nat) {a0 : Nat} {c0 : ClassId} {n0 n1 : Nat} {f g : Nat → Int32} (ha0 : ws[q0]? = some (a0, .inl (c0, n0, .inl f))) (ha1 : ws[q1]? = some (a, .inl (c0, n1, .inl g))) (ht0 : tys[t0]? = some (c0, .int))
    {sp dp n : Int32} (h1 : ¬ sp < 0) (h2 : ¬ dp < 0) (h3 : ¬ n < 0) (h4 : sp.toNatClampNeg + n.toNatClampNeg ≤ n0) (h5 : dp.toNatClampNeg + n.toNatClampNeg ≤ n1)
    (hframes : 1 ≤ R.frames) (hlocals : (rest.map fun v => v.category).sum + (nativeFrameWords "java/lang/System" "arraycopy" 5 + 11) ≤ R.locals) (hdg : decode cc pc = .ok (.invokestatic index, 3))
    (Wf : M → va_W) (y : M) (hw : ws.set q1 (a, .inl (c0, n1, .inl (va_cpy f g sp.toNatClampNeg dp.toNatClampNeg n.toNatClampNeg))) = Wf y)
    (kk : ∀ z, z = y → ∀ (H1 : Heap) (locs1 : List Loc), va_P D cl (Wf z) H1 → va_D A (Wf z) → va_S A H0 H1 locs1 → W p l e R s m args below meth c H1 locs1 cells slots Q (F0 m (pc + 3) ls rest)) : W p l e R s m args below meth c H locs cells slots Q (F0 m pc ls (.int n :: .int dp :: .ref a :: .int sp :: .ref a0 :: rest)) :=
  va_copyi hexec hb hml hown hlink hnat hstat hini hK hP hD hS q0 q1 t0 t0 ha0 ha1 ht0 ht0 rfl h1 h2 h3 h4 h5 (fun i _ => tm_fitI _) hframes hlocals hdg (fun H1 locs1 h1 h2 h3 => kk y rfl H1 locs1 (hw ▸ h1) (hw ▸ h2) h3)
end tmW
theorem tm_mkI {l : Launch} {D : va_G} {tys : List (ClassId × FieldType)} {y : MethodName} {ws ws' : List Cond} {rm : Room} {av : List Value} {w0 : va_W} {r0 : Int32} {w1 : va_W} {cc : ByteArray} {maxL : Nat} {ty : FieldType} (hy : plainName y.cls = true) (hw : ws = Cond.code y cc maxL (some ty) :: ws') (hlen : (lg_sl av).length ≤ maxL)
    (body : ∀ (p : Program) (e : Env) (s : State) (m : MethodId) (below : List Frame) (meth : Method) (c : Code) (A : Nat → Prop) (ls : Array Slot) (Q : State → Prop), tm_Cx p s m c av.toArray cc maxL y.cls ws D tys A s.heap → va_P D vwCl w0 s.heap → va_D A w0 → va_S A s.heap s.heap [] → lv_has ls maxL (lv_args 0 av) →
      (∀ (H : Heap) (locs : List Loc) (pc : Nat) (ls : Array Slot), va_P D vwCl w1 H → va_D A w1 → va_S A s.heap H locs → narrow ty (.int r0) = .int r0 → decode cc pc = .ok (.ireturn, 1) → W p l e rm s m av.toArray below meth c H locs 0 0 Q (F0 m pc ls [.int r0])) → W p l e rm s m av.toArray below meth c s.heap [] 0 0 Q (F0 m 0 ls [])) : tm_CI l D tys y ws rm av w0 r0 w1 := by
  intro sz
  refine Met.ofW (cc := cc) (maxL := maxL) (ret := some ty) hy hw ?_
  intro p e s m args below meth c s₁ B hml hv
  obtain ⟨rfl, hsz, hP, hK, hD0⟩ := hv
  have hx := B.exec
  have hb := B.bytes
  have hr := B.returns
  have hts := atoms_spec (ws := ws) B.pre
  have hown : s.vm.findClass y.cls = some m.cls := findClass_of_methodNamed B.named
  have hlocks := B.notSynchronized
  subst hsz
  have hD := hD0.self (sz := s.heap.size)
  have hl := lv_entry av (n := maxL) hlen
  rw [lg_entry_eq]
  generalize (lg_sl av ++ List.replicate (maxL - (lg_sl av).length) Slot.unset).toArray = ls at hl ⊢
  refine body p e s m below meth c (va_A w0 s.heap.size) ls _ ⟨hx, hb, hml, hown, hts, hK, fun q h => Or.inr h⟩ hP hD va_S.rf hl ?_
  intro H locs pc ls hP1 hD1 hS1 hn hd
  exact W.zret hx hb hr hn (fun t ht hW => ⟨⟨r0, (), rfl, rfl, by rw [ht]; exact hP1, va_K.moved hW.alike hK, hD1⟩, hS1.F ht⟩) hS1.2.2 hd hlocks
theorem tm_ofWF {l : Launch} {y : MethodName} {ws ws' : List Cond} {rm : Room} {Pc : Array Value → State → Prop} {Qc : Array Value → State → Outcome → State → Prop} {mc ms : Nat} {free : Addr → Prop} {cc : ByteArray} {maxL : Nat} {ret : Option FieldType}
    (hy : plainFor y = true) (hw : ws = Cond.code y cc maxL ret :: ws')
    (body : ∀ p e s m args below meth c s₁, BodyLoose p l y (headSpec ws rm) cc maxL ret e s m args below meth c s₁ → c.maxLocals = maxL → Pc args s →
      W p l e (headSpec ws rm).room s m args below meth c s.heap [] 0 0 (MQ below Qc args s mc ms free) (entryFrame m args maxL)) : Met l y ws rm Pc Qc mc ms free := by
  refine MetFree.of_bodySF (code := cc) (maxLocals := maxL) (ret := ret) hy ?_ ?_
  · intro args s m h hn
    obtain ⟨meth, c, h1, h2, h3, h4, h5, h6, -, -⟩ := Cond.code_spec hn (atoms_spec (ws := ws) h _ (by rw [hw]; exact List.mem_cons_self))
    exact ⟨meth, c, h1, h2, h3, h4, h5, h6⟩
  · intro p e s m args below meth c s₁ B hml hP _
    have hh0 : s₁.heap = s.heap := by rw [B.state]; rfl
    obtain ⟨t, a1, o, b1, b2, b3⟩ := body p e s m args below meth c s₁ B hml hP s₁ hh0 (Stand.of_body B)
    exact ⟨t, o, a1, b1, b2, ⟨b3.1, b3.2⟩⟩
theorem tm_mkIJ {l : Launch} {D : va_G} {tys : List (ClassId × FieldType)} {y : MethodName} {ws ws' : List Cond} {rm : Room} {av : List Value} {w0 : va_W} {r0 : Int32} {w1 : va_W} {cc : ByteArray} {maxL : Nat} {ty : FieldType} (hy : plainFor y = true) (hw : ws = Cond.code y cc maxL (some ty) :: ws') (hlen : (lg_sl av).length ≤ maxL)
    (body : ∀ (p : Program) (e : Env) (s : State) (m : MethodId) (below : List Frame) (meth : Method) (c : Code) (A : Nat → Prop) (ls : Array Slot) (Q : State → Prop), tm_Cx p s m c av.toArray cc maxL y.cls ws D tys A s.heap → va_P D vwCl w0 s.heap → va_D A w0 → va_S A s.heap s.heap [] → lv_has ls maxL (lv_args 0 av) →
      (∀ (H : Heap) (locs : List Loc) (pc : Nat) (ls : Array Slot), va_P D vwCl w1 H → va_D A w1 → va_S A s.heap H locs → narrow ty (.int r0) = .int r0 → decode cc pc = .ok (.ireturn, 1) → W p l e rm s m av.toArray below meth c H locs 0 0 Q (F0 m pc ls [.int r0])) → W p l e rm s m av.toArray below meth c s.heap [] 0 0 Q (F0 m 0 ls [])) : tm_CI l D tys y ws rm av w0 r0 w1 := by
  intro sz
  refine tm_ofWF (cc := cc) (maxL := maxL) (ret := some ty) hy hw ?_
  intro p e s m args below meth c s₁ B hml hv
  obtain ⟨rfl, hsz, hP, hK, hD0⟩ := hv
  have hx := B.exec
  have hb := B.bytes
  have hr := B.returns
  have hts := atoms_spec (ws := ws) B.pre
  have hown : s.vm.findClass y.cls = some m.cls := findClass_of_methodNamed B.named
  have hlocks := B.notSynchronized
  subst hsz
  have hD := hD0.self (sz := s.heap.size)
  have hl := lv_entry av (n := maxL) hlen
  rw [lg_entry_eq]
  generalize (lg_sl av ++ List.replicate (maxL - (lg_sl av).length) Slot.unset).toArray = ls at hl ⊢
  refine body p e s m below meth c (va_A w0 s.heap.size) ls _ ⟨hx, hb, hml, hown, hts, hK, fun q h => Or.inr h⟩ hP hD va_S.rf hl ?_
  intro H locs pc ls hP1 hD1 hS1 hn hd
  exact W.zret hx hb hr hn (fun t ht hW => ⟨⟨r0, (), rfl, rfl, by rw [ht]; exact hP1, va_K.moved hW.alike hK, hD1⟩, hS1.F ht⟩) hS1.2.2 hd hlocks
theorem tm_mkF {l : Launch} {D : va_G} {tys : List (ClassId × FieldType)} {y : MethodName} {ws ws' : List Cond} {rm : Room} {av : List Value} {w0 : va_W} {r0 : UInt32} {w1 : va_W} {cc : ByteArray} {maxL : Nat} (hy : plainName y.cls = true) (hw : ws = Cond.code y cc maxL (some .float) :: ws') (hlen : (lg_sl av).length ≤ maxL)
    (body : ∀ (p : Program) (e : Env) (s : State) (m : MethodId) (below : List Frame) (meth : Method) (c : Code) (A : Nat → Prop) (ls : Array Slot) (Q : State → Prop), tm_Cx p s m c av.toArray cc maxL y.cls ws D tys A s.heap → va_P D vwCl w0 s.heap → va_D A w0 → va_S A s.heap s.heap [] → lv_has ls maxL (lv_args 0 av) →
      (∀ (H : Heap) (locs : List Loc) (pc : Nat) (ls : Array Slot), va_P D vwCl w1 H → va_D A w1 → va_S A s.heap H locs → decode cc pc = .ok (.freturn, 1) → W p l e rm s m av.toArray below meth c H locs 0 0 Q (F0 m pc ls [.float r0])) → W p l e rm s m av.toArray below meth c s.heap [] 0 0 Q (F0 m 0 ls [])) : tm_CF l D tys y ws rm av w0 r0 w1 := by
  intro sz
  refine Met.ofW (cc := cc) (maxL := maxL) (ret := some .float) hy hw ?_
  intro p e s m args below meth c s₁ B hml hv
  obtain ⟨rfl, hsz, hP, hK, hD0⟩ := hv
  have hx := B.exec
  have hb := B.bytes
  have hr := B.returns
  have hts := atoms_spec (ws := ws) B.pre
  have hown : s.vm.findClass y.cls = some m.cls := findClass_of_methodNamed B.named
  have hlocks := B.notSynchronized
  subst hsz
  have hD := hD0.self (sz := s.heap.size)
  have hl := lv_entry av (n := maxL) hlen
  rw [lg_entry_eq]
  generalize (lg_sl av ++ List.replicate (maxL - (lg_sl av).length) Slot.unset).toArray = ls at hl ⊢
  refine body p e s m below meth c (va_A w0 s.heap.size) ls _ ⟨hx, hb, hml, hown, hts, hK, fun q h => Or.inr h⟩ hP hD va_S.rf hl ?_
  intro H locs pc ls hP1 hD1 hS1 hd
  exact W.fret hx hb hr (fun t ht hW => ⟨⟨r0, (), rfl, rfl, by rw [ht]; exact hP1, va_K.moved hW.alike hK, hD1⟩, hS1.F ht⟩) hS1.2.2 hd hlocks
theorem tm_mkL {l : Launch} {D : va_G} {tys : List (ClassId × FieldType)} {y : MethodName} {ws ws' : List Cond} {rm : Room} {av : List Value} {w0 : va_W} {r0 : Int64} {w1 : va_W} {cc : ByteArray} {maxL : Nat} (hy : plainName y.cls = true) (hw : ws = Cond.code y cc maxL (some .long) :: ws') (hlen : (lg_sl av).length ≤ maxL)
    (body : ∀ (p : Program) (e : Env) (s : State) (m : MethodId) (below : List Frame) (meth : Method) (c : Code) (A : Nat → Prop) (ls : Array Slot) (Q : State → Prop), tm_Cx p s m c av.toArray cc maxL y.cls ws D tys A s.heap → va_P D vwCl w0 s.heap → va_D A w0 → va_S A s.heap s.heap [] → lv_has ls maxL (lv_args 0 av) →
      (∀ (H : Heap) (locs : List Loc) (pc : Nat) (ls : Array Slot), va_P D vwCl w1 H → va_D A w1 → va_S A s.heap H locs → decode cc pc = .ok (.lreturn, 1) → W p l e rm s m av.toArray below meth c H locs 0 0 Q (F0 m pc ls [.long r0])) → W p l e rm s m av.toArray below meth c s.heap [] 0 0 Q (F0 m 0 ls [])) : tm_CL l D tys y ws rm av w0 r0 w1 := by
  intro sz
  refine Met.ofW (cc := cc) (maxL := maxL) (ret := some .long) hy hw ?_
  intro p e s m args below meth c s₁ B hml hv
  obtain ⟨rfl, hsz, hP, hK, hD0⟩ := hv
  have hx := B.exec
  have hb := B.bytes
  have hr := B.returns
  have hts := atoms_spec (ws := ws) B.pre
  have hown : s.vm.findClass y.cls = some m.cls := findClass_of_methodNamed B.named
  have hlocks := B.notSynchronized
  subst hsz
  have hD := hD0.self (sz := s.heap.size)
  have hl := lv_entry av (n := maxL) hlen
  rw [lg_entry_eq]
  generalize (lg_sl av ++ List.replicate (maxL - (lg_sl av).length) Slot.unset).toArray = ls at hl ⊢
  refine body p e s m below meth c (va_A w0 s.heap.size) ls _ ⟨hx, hb, hml, hown, hts, hK, fun q h => Or.inr h⟩ hP hD va_S.rf hl ?_
  intro H locs pc ls hP1 hD1 hS1 hd
  exact W.lret hx hb hr (fun t ht hW => ⟨⟨r0, (), rfl, rfl, by rw [ht]; exact hP1, va_K.moved hW.alike hK, hD1⟩, hS1.F ht⟩) hS1.2.2 hd hlocks
theorem tm_mkV {l : Launch} {D : va_G} {tys : List (ClassId × FieldType)} {y : MethodName} {ws ws' : List Cond} {rm : Room} {av : List Value} {w0 : va_W} {w1 : va_W} {cc : ByteArray} {maxL : Nat} (hy : plainName y.cls = true) (hw : ws = Cond.code y cc maxL (none) :: ws') (hlen : (lg_sl av).length ≤ maxL)
    (body : ∀ (p : Program) (e : Env) (s : State) (m : MethodId) (below : List Frame) (meth : Method) (c : Code) (A : Nat → Prop) (ls : Array Slot) (Q : State → Prop), tm_Cx p s m c av.toArray cc maxL y.cls ws D tys A s.heap → va_P D vwCl w0 s.heap → va_D A w0 → va_S A s.heap s.heap [] → lv_has ls maxL (lv_args 0 av) →
      (∀ (H : Heap) (locs : List Loc) (pc : Nat) (ls : Array Slot), va_P D vwCl w1 H → va_D A w1 → va_S A s.heap H locs → decode cc pc = .ok (.return_, 1) → W p l e rm s m av.toArray below meth c H locs 0 0 Q (F0 m pc ls [])) → W p l e rm s m av.toArray below meth c s.heap [] 0 0 Q (F0 m 0 ls [])) : tm_CV l D tys y ws rm av w0 w1 := by
  intro sz
  refine Met.ofW (cc := cc) (maxL := maxL) (ret := none) hy hw ?_
  intro p e s m args below meth c s₁ B hml hv
  obtain ⟨rfl, hsz, hP, hK, hD0⟩ := hv
  have hx := B.exec
  have hb := B.bytes
  have hr := B.returns
  have hts := atoms_spec (ws := ws) B.pre
  have hown : s.vm.findClass y.cls = some m.cls := findClass_of_methodNamed B.named
  have hlocks := B.notSynchronized
  subst hsz
  have hD := hD0.self (sz := s.heap.size)
  have hl := lv_entry av (n := maxL) hlen
  rw [lg_entry_eq]
  generalize (lg_sl av ++ List.replicate (maxL - (lg_sl av).length) Slot.unset).toArray = ls at hl ⊢
  refine body p e s m below meth c (va_A w0 s.heap.size) ls _ ⟨hx, hb, hml, hown, hts, hK, fun q h => Or.inr h⟩ hP hD va_S.rf hl ?_
  intro H locs pc ls hP1 hD1 hS1 hd
  exact W.vret hx hb hr (fun t ht hW => ⟨⟨(), rfl, trivial, by rw [ht]; exact hP1, va_K.moved hW.alike hK, hD1⟩, hS1.F ht⟩) hS1.2.2 hd hlocks
section tmC
variable {p : Program} {l : Launch} {e : Env} {R : Room} {s : State} {m : MethodId} {args : Array Value} {below : List Frame} {meth : Method} {c : Code} {H : Heap} {locs : List Loc} {cells slots : Nat} {Q : State → Prop}
variable {cc : ByteArray} {pc : Nat} {ls : Array Slot} {rest st0 : List Value} {D : va_G} {A : Nat → Prop} {tys : List (ClassId × FieldType)} {ws wc w1 : va_W} {H0 : Heap}
variable {y : MethodName} {bytes : ByteArray} {maxL nL n index : Nat} {ret : Option FieldType} {wy : List Cond} {rm : Room} {Ts : List Cond} {own C : String} {b : Addr} {As : List Value}
theorem tm_cVI {M : Type} {r0 : Int32} (S : CallFix p m c cc nL s args Ts own) (hM : tm_CI l D tys y wy rm (.ref b :: As) wc r0 w1) (cw : CallW R s args own C index y bytes maxL ret wy rm 0 0 n) (hK : va_K D vwCl tys s) (hP : va_P D vwCl ws H) (hD : va_D A ws) (hS : va_S A H0 H locs) (hA : ∀ q, H0.size ≤ q → A q) (is : List Nat) (hn : va_nd is = true) (hC : is.map (fun i => ws[i]?) = wc.map some) (ha : w1.map (fun x => x.1) = wc.map (fun x => x.1)) {ci : Nat} {fs : List Value} {qc : vw_C} (hcl : vwCl[ci]? = some qc) (hqc : qc.1 = C) (hrec : wc[0]? = some (b, .inr (ci, fs))) (Wf : M → va_W) (x : M) (hw : tm_re is w1 0 ws = Wf x)
    (hnA : As.length = n) (hsize : ls.size = nL) (hst : st0 = As.reverse ++ .ref b :: rest) (hcat : (rest.map fun v => v.category).sum ≤ 8) (hdg : decode cc pc = .ok (.invokevirtual index, 3)) (hf : cells ≤ R.cells ∧ slots ≤ R.slots)
    (kk : ∀ z, z = x → ∀ (H1 : Heap) (locs1 : List Loc), va_P D vwCl (Wf z) H1 → va_D A (Wf z) → va_S A H0 H1 locs1 → W p l e R s m args below meth c H1 locs1 cells slots Q (F0 m (pc + 3) ls (.int r0 :: rest))) : W p l e R s m args below meth c H locs cells slots Q (F0 m pc ls st0) := by
  have hPc := hP.sub is (tm_fm is wc hC)
  have hDc := hD.sub is hn hC
  have hFc := va_free hD hS hA is hC
  refine va_calli (va_runV (As := As) (rest := rest) S (hM H.size) cw ⟨tm_blind, by rw [← hqc]; exact va_recv hK hPc hcl hrec, fun U hU hW => ⟨rfl, by rw [hU], by rw [hU]; exact hPc, va_K.moved hW.alike hK, hDc.weaken (fun _ _ _ _ => trivial)⟩⟩ rfl hnA hsize hst (lv_room hcat) hdg hf) hS (fun q _ h => hFc q h) hFc (fun r u t H1 locs1 ht hvm hww hB hz1 hk1 hS1 => ?_)
  obtain ⟨hP1, hK1, hD1⟩ := hB
  rw [ht] at hP1
  obtain ⟨hP2, hD2⟩ := tm_join hP hD is hC ha hk1 hP1
  subst hww
  exact kk x rfl H1 locs1 (hw ▸ hP2) (hw ▸ hD2) hS1
theorem tm_cSI {M : Type} {r0 : Int32} (S : CallFix p m c cc nL s args Ts own) (hM : tm_CI l D tys y wy rm As wc r0 w1) (cw : CallB R s args own index y bytes maxL ret wy rm 0 0 n ∧ (Cond.static y).before args s = true) (hK : va_K D vwCl tys s) (hP : va_P D vwCl ws H) (hD : va_D A ws) (hS : va_S A H0 H locs) (hA : ∀ q, H0.size ≤ q → A q) (is : List Nat) (hn : va_nd is = true) (hC : is.map (fun i => ws[i]?) = wc.map some) (ha : w1.map (fun x => x.1) = wc.map (fun x => x.1)) (Wf : M → va_W) (x : M) (hw : tm_re is w1 0 ws = Wf x)
    (hnA : As.length = n) (hsize : ls.size = nL) (hst : st0 = As.reverse ++ rest) (hcat : (rest.map fun v => v.category).sum ≤ 8) (hdg : decode cc pc = .ok (.invokestatic index, 3)) (hf : cells ≤ R.cells ∧ slots ≤ R.slots)
    (kk : ∀ z, z = x → ∀ (H1 : Heap) (locs1 : List Loc), va_P D vwCl (Wf z) H1 → va_D A (Wf z) → va_S A H0 H1 locs1 → W p l e R s m args below meth c H1 locs1 cells slots Q (F0 m (pc + 3) ls (.int r0 :: rest))) : W p l e R s m args below meth c H locs cells slots Q (F0 m pc ls st0) := by
  have hPc := hP.sub is (tm_fm is wc hC)
  have hDc := hD.sub is hn hC
  have hFc := va_free hD hS hA is hC
  refine va_calli (va_runS (As := As) (rest := rest) S (hM H.size) cw ⟨tm_blind, fun U hU hW => ⟨rfl, by rw [hU], by rw [hU]; exact hPc, va_K.moved hW.alike hK, hDc.weaken (fun _ _ _ _ => trivial)⟩⟩ rfl hnA hsize hst (lv_room hcat) hdg hf) hS (fun q _ h => hFc q h) hFc (fun r u t H1 locs1 ht hvm hww hB hz1 hk1 hS1 => ?_)
  obtain ⟨hP1, hK1, hD1⟩ := hB
  rw [ht] at hP1
  obtain ⟨hP2, hD2⟩ := tm_join hP hD is hC ha hk1 hP1
  subst hww
  exact kk x rfl H1 locs1 (hw ▸ hP2) (hw ▸ hD2) hS1
theorem tm_cVF {M : Type} {r0 : UInt32} (S : CallFix p m c cc nL s args Ts own) (hM : tm_CF l D tys y wy rm (.ref b :: As) wc r0 w1) (cw : CallW R s args own C index y bytes maxL ret wy rm 0 0 n) (hK : va_K D vwCl tys s) (hP : va_P D vwCl ws H) (hD : va_D A ws) (hS : va_S A H0 H locs) (hA : ∀ q, H0.size ≤ q → A q) (is : List Nat) (hn : va_nd is = true) (hC : is.map (fun i => ws[i]?) = wc.map some) (ha : w1.map (fun x => x.1) = wc.map (fun x => x.1)) {ci : Nat} {fs : List Value} {qc : vw_C} (hcl : vwCl[ci]? = some qc) (hqc : qc.1 = C) (hrec : wc[0]? = some (b, .inr (ci, fs))) (Wf : M → va_W) (x : M) (hw : tm_re is w1 0 ws = Wf x)
    (hnA : As.length = n) (hsize : ls.size = nL) (hst : st0 = As.reverse ++ .ref b :: rest) (hcat : (rest.map fun v => v.category).sum ≤ 8) (hdg : decode cc pc = .ok (.invokevirtual index, 3)) (hf : cells ≤ R.cells ∧ slots ≤ R.slots)
    (kk : ∀ z, z = x → ∀ (H1 : Heap) (locs1 : List Loc), va_P D vwCl (Wf z) H1 → va_D A (Wf z) → va_S A H0 H1 locs1 → W p l e R s m args below meth c H1 locs1 cells slots Q (F0 m (pc + 3) ls (.float r0 :: rest))) : W p l e R s m args below meth c H locs cells slots Q (F0 m pc ls st0) := by
  have hPc := hP.sub is (tm_fm is wc hC)
  have hDc := hD.sub is hn hC
  have hFc := va_free hD hS hA is hC
  refine va_callf (va_runV (As := As) (rest := rest) S (hM H.size) cw ⟨tm_blind, by rw [← hqc]; exact va_recv hK hPc hcl hrec, fun U hU hW => ⟨rfl, by rw [hU], by rw [hU]; exact hPc, va_K.moved hW.alike hK, hDc.weaken (fun _ _ _ _ => trivial)⟩⟩ rfl hnA hsize hst (lv_room hcat) hdg hf) hS (fun q _ h => hFc q h) hFc (fun r u t H1 locs1 ht hvm hww hB hz1 hk1 hS1 => ?_)
  obtain ⟨hP1, hK1, hD1⟩ := hB
  rw [ht] at hP1
  obtain ⟨hP2, hD2⟩ := tm_join hP hD is hC ha hk1 hP1
  subst hww
  exact kk x rfl H1 locs1 (hw ▸ hP2) (hw ▸ hD2) hS1
theorem tm_cSF {M : Type} {r0 : UInt32} (S : CallFix p m c cc nL s args Ts own) (hM : tm_CF l D tys y wy rm As wc r0 w1) (cw : CallB R s args own index y bytes maxL ret wy rm 0 0 n ∧ (Cond.static y).before args s = true) (hK : va_K D vwCl tys s) (hP : va_P D vwCl ws H) (hD : va_D A ws) (hS : va_S A H0 H locs) (hA : ∀ q, H0.size ≤ q → A q) (is : List Nat) (hn : va_nd is = true) (hC : is.map (fun i => ws[i]?) = wc.map some) (ha : w1.map (fun x => x.1) = wc.map (fun x => x.1)) (Wf : M → va_W) (x : M) (hw : tm_re is w1 0 ws = Wf x)
    (hnA : As.length = n) (hsize : ls.size = nL) (hst : st0 = As.reverse ++ rest) (hcat : (rest.map fun v => v.category).sum ≤ 8) (hdg : decode cc pc = .ok (.invokestatic index, 3)) (hf : cells ≤ R.cells ∧ slots ≤ R.slots)
    (kk : ∀ z, z = x → ∀ (H1 : Heap) (locs1 : List Loc), va_P D vwCl (Wf z) H1 → va_D A (Wf z) → va_S A H0 H1 locs1 → W p l e R s m args below meth c H1 locs1 cells slots Q (F0 m (pc + 3) ls (.float r0 :: rest))) : W p l e R s m args below meth c H locs cells slots Q (F0 m pc ls st0) := by
  have hPc := hP.sub is (tm_fm is wc hC)
  have hDc := hD.sub is hn hC
  have hFc := va_free hD hS hA is hC
  refine va_callf (va_runS (As := As) (rest := rest) S (hM H.size) cw ⟨tm_blind, fun U hU hW => ⟨rfl, by rw [hU], by rw [hU]; exact hPc, va_K.moved hW.alike hK, hDc.weaken (fun _ _ _ _ => trivial)⟩⟩ rfl hnA hsize hst (lv_room hcat) hdg hf) hS (fun q _ h => hFc q h) hFc (fun r u t H1 locs1 ht hvm hww hB hz1 hk1 hS1 => ?_)
  obtain ⟨hP1, hK1, hD1⟩ := hB
  rw [ht] at hP1
  obtain ⟨hP2, hD2⟩ := tm_join hP hD is hC ha hk1 hP1
  subst hww
  exact kk x rfl H1 locs1 (hw ▸ hP2) (hw ▸ hD2) hS1
theorem tm_cVL {M : Type} {r0 : Int64} (S : CallFix p m c cc nL s args Ts own) (hM : tm_CL l D tys y wy rm (.ref b :: As) wc r0 w1) (cw : CallW R s args own C index y bytes maxL ret wy rm 0 0 n) (hK : va_K D vwCl tys s) (hP : va_P D vwCl ws H) (hD : va_D A ws) (hS : va_S A H0 H locs) (hA : ∀ q, H0.size ≤ q → A q) (is : List Nat) (hn : va_nd is = true) (hC : is.map (fun i => ws[i]?) = wc.map some) (ha : w1.map (fun x => x.1) = wc.map (fun x => x.1)) {ci : Nat} {fs : List Value} {qc : vw_C} (hcl : vwCl[ci]? = some qc) (hqc : qc.1 = C) (hrec : wc[0]? = some (b, .inr (ci, fs))) (Wf : M → va_W) (x : M) (hw : tm_re is w1 0 ws = Wf x)
    (hnA : As.length = n) (hsize : ls.size = nL) (hst : st0 = As.reverse ++ .ref b :: rest) (hcat : (rest.map fun v => v.category).sum ≤ 8) (hdg : decode cc pc = .ok (.invokevirtual index, 3)) (hf : cells ≤ R.cells ∧ slots ≤ R.slots)
    (kk : ∀ z, z = x → ∀ (H1 : Heap) (locs1 : List Loc), va_P D vwCl (Wf z) H1 → va_D A (Wf z) → va_S A H0 H1 locs1 → W p l e R s m args below meth c H1 locs1 cells slots Q (F0 m (pc + 3) ls (.long r0 :: rest))) : W p l e R s m args below meth c H locs cells slots Q (F0 m pc ls st0) := by
  have hPc := hP.sub is (tm_fm is wc hC)
  have hDc := hD.sub is hn hC
  have hFc := va_free hD hS hA is hC
  refine va_calll (va_runV (As := As) (rest := rest) S (hM H.size) cw ⟨tm_blind, by rw [← hqc]; exact va_recv hK hPc hcl hrec, fun U hU hW => ⟨rfl, by rw [hU], by rw [hU]; exact hPc, va_K.moved hW.alike hK, hDc.weaken (fun _ _ _ _ => trivial)⟩⟩ rfl hnA hsize hst (lv_room hcat) hdg hf) hS (fun q _ h => hFc q h) hFc (fun r u t H1 locs1 ht hvm hww hB hz1 hk1 hS1 => ?_)
  obtain ⟨hP1, hK1, hD1⟩ := hB
  rw [ht] at hP1
  obtain ⟨hP2, hD2⟩ := tm_join hP hD is hC ha hk1 hP1
  subst hww
  exact kk x rfl H1 locs1 (hw ▸ hP2) (hw ▸ hD2) hS1
theorem tm_cSL {M : Type} {r0 : Int64} (S : CallFix p m c cc nL s args Ts own) (hM : tm_CL l D tys y wy rm As wc r0 w1) (cw : CallB R s args own index y bytes maxL ret wy rm 0 0 n ∧ (Cond.static y).before args s = true) (hK : va_K D vwCl tys s) (hP : va_P D vwCl ws H) (hD : va_D A ws) (hS : va_S A H0 H locs) (hA : ∀ q, H0.size ≤ q → A q) (is : List Nat) (hn : va_nd is = true) (hC : is.map (fun i => ws[i]?) = wc.map some) (ha : w1.map (fun x => x.1) = wc.map (fun x => x.1)) (Wf : M → va_W) (x : M) (hw : tm_re is w1 0 ws = Wf x)
    (hnA : As.length = n) (hsize : ls.size = nL) (hst : st0 = As.reverse ++ rest) (hcat : (rest.map fun v => v.category).sum ≤ 8) (hdg : decode cc pc = .ok (.invokestatic index, 3)) (hf : cells ≤ R.cells ∧ slots ≤ R.slots)
    (kk : ∀ z, z = x → ∀ (H1 : Heap) (locs1 : List Loc), va_P D vwCl (Wf z) H1 → va_D A (Wf z) → va_S A H0 H1 locs1 → W p l e R s m args below meth c H1 locs1 cells slots Q (F0 m (pc + 3) ls (.long r0 :: rest))) : W p l e R s m args below meth c H locs cells slots Q (F0 m pc ls st0) := by
  have hPc := hP.sub is (tm_fm is wc hC)
  have hDc := hD.sub is hn hC
  have hFc := va_free hD hS hA is hC
  refine va_calll (va_runS (As := As) (rest := rest) S (hM H.size) cw ⟨tm_blind, fun U hU hW => ⟨rfl, by rw [hU], by rw [hU]; exact hPc, va_K.moved hW.alike hK, hDc.weaken (fun _ _ _ _ => trivial)⟩⟩ rfl hnA hsize hst (lv_room hcat) hdg hf) hS (fun q _ h => hFc q h) hFc (fun r u t H1 locs1 ht hvm hww hB hz1 hk1 hS1 => ?_)
  obtain ⟨hP1, hK1, hD1⟩ := hB
  rw [ht] at hP1
  obtain ⟨hP2, hD2⟩ := tm_join hP hD is hC ha hk1 hP1
  subst hww
  exact kk x rfl H1 locs1 (hw ▸ hP2) (hw ▸ hD2) hS1
theorem tm_cVV {M : Type} (S : CallFix p m c cc nL s args Ts own) (hM : tm_CV l D tys y wy rm (.ref b :: As) wc w1) (cw : CallW R s args own C index y bytes maxL ret wy rm 0 0 n) (hK : va_K D vwCl tys s) (hP : va_P D vwCl ws H) (hD : va_D A ws) (hS : va_S A H0 H locs) (hA : ∀ q, H0.size ≤ q → A q) (is : List Nat) (hn : va_nd is = true) (hC : is.map (fun i => ws[i]?) = wc.map some) (ha : w1.map (fun x => x.1) = wc.map (fun x => x.1)) {ci : Nat} {fs : List Value} {qc : vw_C} (hcl : vwCl[ci]? = some qc) (hqc : qc.1 = C) (hrec : wc[0]? = some (b, .inr (ci, fs))) (Wf : M → va_W) (x : M) (hw : tm_re is w1 0 ws = Wf x)
    (hnA : As.length = n) (hsize : ls.size = nL) (hst : st0 = As.reverse ++ .ref b :: rest) (hcat : (rest.map fun v => v.category).sum ≤ 8) (hdg : decode cc pc = .ok (.invokevirtual index, 3)) (hf : cells ≤ R.cells ∧ slots ≤ R.slots)
    (kk : ∀ z, z = x → ∀ (H1 : Heap) (locs1 : List Loc), va_P D vwCl (Wf z) H1 → va_D A (Wf z) → va_S A H0 H1 locs1 → W p l e R s m args below meth c H1 locs1 cells slots Q (F0 m (pc + 3) ls (rest))) : W p l e R s m args below meth c H locs cells slots Q (F0 m pc ls st0) := by
  have hPc := hP.sub is (tm_fm is wc hC)
  have hDc := hD.sub is hn hC
  have hFc := va_free hD hS hA is hC
  refine va_callv (va_runV (As := As) (rest := rest) S (hM H.size) cw ⟨tm_blind, by rw [← hqc]; exact va_recv hK hPc hcl hrec, fun U hU hW => ⟨rfl, by rw [hU], by rw [hU]; exact hPc, va_K.moved hW.alike hK, hDc.weaken (fun _ _ _ _ => trivial)⟩⟩ rfl hnA hsize hst (lv_room hcat) hdg hf) hS (fun q _ h => hFc q h) hFc (fun u t H1 locs1 ht hvm hww hB hz1 hk1 hS1 => ?_)
  obtain ⟨hP1, hK1, hD1⟩ := hB
  rw [ht] at hP1
  obtain ⟨hP2, hD2⟩ := tm_join hP hD is hC ha hk1 hP1
  exact kk x rfl H1 locs1 (hw ▸ hP2) (hw ▸ hD2) hS1
theorem tm_cSV {M : Type} (S : CallFix p m c cc nL s args Ts own) (hM : tm_CV l D tys y wy rm As wc w1) (cw : CallB R s args own index y bytes maxL ret wy rm 0 0 n ∧ (Cond.static y).before args s = true) (hK : va_K D vwCl tys s) (hP : va_P D vwCl ws H) (hD : va_D A ws) (hS : va_S A H0 H locs) (hA : ∀ q, H0.size ≤ q → A q) (is : List Nat) (hn : va_nd is = true) (hC : is.map (fun i => ws[i]?) = wc.map some) (ha : w1.map (fun x => x.1) = wc.map (fun x => x.1)) (Wf : M → va_W) (x : M) (hw : tm_re is w1 0 ws = Wf x)
    (hnA : As.length = n) (hsize : ls.size = nL) (hst : st0 = As.reverse ++ rest) (hcat : (rest.map fun v => v.category).sum ≤ 8) (hdg : decode cc pc = .ok (.invokestatic index, 3)) (hf : cells ≤ R.cells ∧ slots ≤ R.slots)
    (kk : ∀ z, z = x → ∀ (H1 : Heap) (locs1 : List Loc), va_P D vwCl (Wf z) H1 → va_D A (Wf z) → va_S A H0 H1 locs1 → W p l e R s m args below meth c H1 locs1 cells slots Q (F0 m (pc + 3) ls (rest))) : W p l e R s m args below meth c H locs cells slots Q (F0 m pc ls st0) := by
  have hPc := hP.sub is (tm_fm is wc hC)
  have hDc := hD.sub is hn hC
  have hFc := va_free hD hS hA is hC
  refine va_callv (va_runS (As := As) (rest := rest) S (hM H.size) cw ⟨tm_blind, fun U hU hW => ⟨rfl, by rw [hU], by rw [hU]; exact hPc, va_K.moved hW.alike hK, hDc.weaken (fun _ _ _ _ => trivial)⟩⟩ rfl hnA hsize hst (lv_room hcat) hdg hf) hS (fun q _ h => hFc q h) hFc (fun u t H1 locs1 ht hvm hww hB hz1 hk1 hS1 => ?_)
  obtain ⟨hP1, hK1, hD1⟩ := hB
  rw [ht] at hP1
  obtain ⟨hP2, hD2⟩ := tm_join hP hD is hC ha hk1 hP1
  exact kk x rfl H1 locs1 (hw ▸ hP2) (hw ▸ hD2) hS1
end tmC
