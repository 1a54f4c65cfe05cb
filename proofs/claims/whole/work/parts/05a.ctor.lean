/-! constructors -/
def tm_cat {α : Type} (n : Nat) (f g : Nat → α) : Nat → α := fun i => cond (Nat.ble (i + 1) n) (f i) (g (i - n))
def tm_Nt (U : State) : Prop := va_Nw (.methodLinkNest RX7 18 yX1_init "TreemapLayout") U ∧ va_Nw (.methodLinkNest RX1 24 yX3_init "TreemapLayout") U ∧ va_Nw (.methodLinkNest RX1 40 yX2_init "TreemapLayout") U ∧ va_Nw (.methodLinkNest RX2 20 yX0_init "TreemapLayout") U ∧ va_Nw (.methodLinkNest RX2 30 yX4_init "TreemapLayout") U ∧ va_AO "TreemapLayout$State" U
theorem tm_Nt.warm {s U : State} (hW : s.WarmedH U.vm) (h : tm_Nt s) : tm_Nt U := ⟨va_Nw.warmM hW h.1, va_Nw.warmM hW h.2.1, va_Nw.warmM hW h.2.2.1, va_Nw.warmM hW h.2.2.2.1, va_Nw.warmM hW h.2.2.2.2.1, va_AO.moved hW.alike h.2.2.2.2.2⟩
theorem tm_Nt.same {s U : State} (h : s.vm = U.vm) (hZ : tm_Nt s) : tm_Nt U := ⟨va_Nw.same rfl h hZ.1, va_Nw.same rfl h hZ.2.1, va_Nw.same rfl h hZ.2.2.1, va_Nw.same rfl h hZ.2.2.2.1, va_Nw.same rfl h hZ.2.2.2.2.1, va_AO.moved (h ▸ Vm.Alike.refl s.vm) hZ.2.2.2.2.2⟩
def tm_PreN (D : va_G) (tys : List (ClassId × FieldType)) (h0 : Nat) (e0 : va_E) (sz : Nat) : Array Value → State → Prop :=
  va_Pc [.ref h0] (fun U => U.heap.size = sz ∧ va_P D vwCl [(h0, e0)] U.heap ∧ va_K D vwCl tys U ∧ va_D (fun _ => True) [(h0, e0)] ∧ tm_Nt U)
theorem tm_blindN {D : va_G} {tys : List (ClassId × FieldType)} {h0 : Nat} {e0 : va_E} {sz : Nat} : FrameBlind (tm_PreN D tys h0 e0 sz) :=
  fun a U g mk q => by
    obtain ⟨q0, q1, qP, qK, qD, qN⟩ := q
    exact ⟨q0, q1, qP, va_K.moved (u := U) (U := U.calling g mk a) (Vm.Alike.refl U.vm) qK, qD, tm_Nt.same (s := U) (U := U.calling g mk a) rfl qN⟩
def tm_CN (l : Launch) (D : va_G) (tys : List (ClassId × FieldType)) (y : MethodName) (ws : List Cond) (rm : Room) (h0 : Nat) (e0 : va_E) (Wf : (Nat → Nat) → va_W) (mc ms : Nat) : Prop :=
  ∀ sz : Nat, Met l y ws rm (tm_PreN D tys h0 e0 sz) (va_Qv (fun q : Nat → Nat => q 0 = h0) (fun q t => va_P D vwCl (Wf q) t.heap ∧ va_K D vwCl tys t ∧ va_D (va_A [(h0, e0)] sz) (Wf q)) (va_A [(h0, e0)] sz)) mc ms (va_A [(h0, e0)] sz)
theorem tm_mkN {l : Launch} {D : va_G} {tys : List (ClassId × FieldType)} {y : MethodName} {ws ws' : List Cond} {rm : Room} {h0 : Nat} {e0 : va_E} {Wf : (Nat → Nat) → va_W} {mc ms : Nat} {cc : ByteArray} {maxL : Nat} (hy : plainName y.cls = true) (hin : y.name = "<init>") (hw : ws = Cond.code y cc maxL none :: ws') (hlen : 1 ≤ maxL)
    (body : ∀ (p : Program) (e : Env) (s : State) (m : MethodId) (below : List Frame) (meth : Method) (c : Code) (A : Nat → Prop) (ls : Array Slot) (Q : State → Prop), tm_Cx p s m c [Value.ref h0].toArray cc maxL y.cls ws D tys A s.heap → tm_Nt s → meth.name = "<init>" → va_P D vwCl [(h0, e0)] s.heap → va_D A [(h0, e0)] → va_S A s.heap s.heap [] → lv_has ls maxL [(0, .ref h0)] →
      (∀ (H : Heap) (locs : List Loc) (pc : Nat) (ls : Array Slot) (q : Nat → Nat), q 0 = h0 → va_P D vwCl (Wf q) H → va_D A (Wf q) → va_S A s.heap H locs → decode cc pc = .ok (.return_, 1) → W p l e rm s m [Value.ref h0].toArray below meth c H locs mc ms Q (F0 m pc ls [])) → W p l e rm s m [Value.ref h0].toArray below meth c s.heap [] 0 0 Q (F0 m 0 ls [])) : tm_CN l D tys y ws rm h0 e0 Wf mc ms := by
  intro sz
  refine Met.ofW (cc := cc) (maxL := maxL) (ret := none) hy hw ?_
  intro p e s m args below meth c s₁ B hml hv
  obtain ⟨rfl, hsz, hP, hK, hD0, hN⟩ := hv
  have hx := B.exec
  have hb := B.bytes
  have hr := B.returns
  have hts := atoms_spec (ws := ws) B.pre
  have hown : s.vm.findClass y.cls = some m.cls := findClass_of_methodNamed B.named
  have hlocks := B.notSynchronized
  have hnm : meth.name = "<init>" := by rw [← hin]; exact (name_of_methodNamed B.named B.method).1
  subst hsz
  have hD := hD0.self (sz := s.heap.size)
  have hl := lv_entry [Value.ref h0] (n := maxL) hlen
  rw [lg_entry_eq]
  generalize (lg_sl [Value.ref h0] ++ List.replicate (maxL - (lg_sl [Value.ref h0]).length) Slot.unset).toArray = ls at hl ⊢
  refine body p e s m below meth c (va_A [(h0, e0)] s.heap.size) ls _ ⟨hx, hb, hml, hown, hts, hK, fun q h => Or.inr h⟩ hN hnm hP hD va_S.rf hl ?_
  intro H locs pc ls q hq hP1 hD1 hS1 hd
  exact W.vret hx hb hr (fun t ht hW => ⟨⟨q, rfl, hq, by rw [ht]; exact hP1, va_K.moved hW.alike hK, hD1⟩, hS1.F ht⟩) hS1.2.2 hd hlocks
section tmN
variable {p : Program} {l : Launch} {e : Env} {R : Room} {s : State} {m : MethodId} {args : Array Value} {below : List Frame} {meth : Method} {c : Code} {H : Heap} {locs : List Loc} {cells slots : Nat} {Q : State → Prop}
variable {cc : ByteArray} {pc : Nat} {ls : Array Slot} {rest st0 : List Value} {D : va_G} {A : Nat → Prop} {tys : List (ClassId × FieldType)} {ws wr : va_W} {H0 : Heap}
variable {y : MethodName} {bytes : ByteArray} {maxL nL n index mc ms : Nat} {wy : List Cond} {rm : Room} {Ts : List Cond} {own host : String} {b : Addr} {e0 : va_E} {Wc : (Nat → Nat) → va_W}
theorem tm_cI (S : CallFix p m c cc nL s args Ts own) (hM : tm_CN l D tys y wy rm b e0 Wc mc ms) (cw : CallB R s args own index y bytes maxL none wy rm mc ms 0 ∧ y.name = "<init>" ∧ (Cond.instanceMethod y).before args s = true) (hK : va_K D vwCl tys s) (hNt : tm_Nt s) (hP : va_P D vwCl ws H) (hD : va_D A ws) (hS : va_S A H0 H locs) (hA : ∀ q, H0.size ≤ q → A q) (isC isR : List Nat) (hnC : va_nd isC = true) (hC : isC.map (fun i => ws[i]?) = [(b, e0)].map some) (hR : isR.map (fun i => ws[i]?) = wr.map some) (hn : va_nd isR = true) (hdis : ∀ i ∈ isR, i ∉ isC)
    (hsize : ls.size = nL) (hst : st0 = .ref b :: rest) (hcat : (rest.map fun v => v.category).sum ≤ 8) (hdg : decode cc pc = .ok (.invokespecial index, 3)) (hf : cells + mc ≤ R.cells ∧ slots + ms ≤ R.slots)
    (kk : ∀ q : Nat → Nat, q 0 = b → ∀ (H1 : Heap) (locs1 : List Loc), va_P D vwCl (wr ++ Wc q) H1 → va_D A (wr ++ Wc q) → va_S A H0 H1 locs1 → W p l e R s m args below meth c H1 locs1 (cells + mc) (slots + ms) Q (F0 m (pc + 3) ls rest)) : W p l e R s m args below meth c H locs cells slots Q (F0 m pc ls st0) := by
  have hPc := hP.sub isC (tm_fm isC _ hC)
  have hDc := hD.sub isC hnC hC
  have hFc := va_free hD hS hA isC hC
  refine va_callv (va_runI (As := []) (rest := rest) S (hM H.size) cw ⟨tm_blindN, fun U hU hW => ⟨rfl, by rw [hU], by rw [hU]; exact hPc, va_K.moved hW.alike hK, hDc.weaken (fun _ _ _ _ => trivial), hNt.warm hW⟩⟩ rfl rfl hsize hst (lv_room hcat) hdg hf) hS (fun q _ h => hFc q h) hFc (fun u t H1 locs1 ht hvm hww hB hz1 hk1 hS1 => ?_)
  obtain ⟨hP1, hK1, hD1⟩ := hB
  rw [ht] at hP1
  obtain ⟨hP2, hD2⟩ := va_join hP hD isC isR hC hR hn hdis hk1 hFc hP1 hD1
  exact kk u hww H1 locs1 hP2 hD2 hS1
theorem tm_cIN (S : CallFix p m c cc nL s args Ts own) (hM : tm_CN l D tys y wy rm b e0 Wc mc ms) (cw : va_CN R s args own index y host bytes maxL none wy rm mc ms 0 ∧ y.name = "<init>" ∧ (Cond.instanceMethod y).before args s = true) (hK : va_K D vwCl tys s) (hNt : tm_Nt s) (hP : va_P D vwCl ws H) (hD : va_D A ws) (hS : va_S A H0 H locs) (hA : ∀ q, H0.size ≤ q → A q) (isC isR : List Nat) (hnC : va_nd isC = true) (hC : isC.map (fun i => ws[i]?) = [(b, e0)].map some) (hR : isR.map (fun i => ws[i]?) = wr.map some) (hn : va_nd isR = true) (hdis : ∀ i ∈ isR, i ∉ isC)
    (hsize : ls.size = nL) (hst : st0 = .ref b :: rest) (hcat : (rest.map fun v => v.category).sum ≤ 8) (hdg : decode cc pc = .ok (.invokespecial index, 3)) (hf : cells + mc ≤ R.cells ∧ slots + ms ≤ R.slots)
    (kk : ∀ q : Nat → Nat, q 0 = b → ∀ (H1 : Heap) (locs1 : List Loc), va_P D vwCl (wr ++ Wc q) H1 → va_D A (wr ++ Wc q) → va_S A H0 H1 locs1 → W p l e R s m args below meth c H1 locs1 (cells + mc) (slots + ms) Q (F0 m (pc + 3) ls rest)) : W p l e R s m args below meth c H locs cells slots Q (F0 m pc ls st0) := by
  have hPc := hP.sub isC (tm_fm isC _ hC)
  have hDc := hD.sub isC hnC hC
  have hFc := va_free hD hS hA isC hC
  refine va_callv (va_runIN (As := []) (rest := rest) S (hM H.size) cw ⟨tm_blindN, fun U hU hW => ⟨rfl, by rw [hU], by rw [hU]; exact hPc, va_K.moved hW.alike hK, hDc.weaken (fun _ _ _ _ => trivial), hNt.warm hW⟩⟩ rfl rfl hsize hst (lv_room hcat) hdg hf) hS (fun q _ h => hFc q h) hFc (fun u t H1 locs1 ht hvm hww hB hz1 hk1 hS1 => ?_)
  obtain ⟨hP1, hK1, hD1⟩ := hB
  rw [ht] at hP1
  obtain ⟨hP2, hD2⟩ := va_join hP hD isC isR hC hR hn hdis hk1 hFc hP1 hD1
  exact kk u hww H1 locs1 hP2 hD2 hS1
/-- a new row of numbers: its class is the one that is known -/
theorem tm_newa (hexec : p.tables.exec = Jvm.exec) (hb : c.code = cc) {atype : ArrayType} (harr : (Cond.arrayClass (newarray.typeOf atype)).before args s = true) {ty : FieldType} (hty : newarray.typeOf atype = ty) (hK : va_K D vwCl tys s) (hP : va_P D vwCl ws H) (hD : va_D A ws) (hS : va_S A H0 H locs) (hA : ∀ q, H0.size ≤ q → A q) (t0 : Nat) {cI : ClassId} (ht : tys[t0]? = some (cI, ty)) (hra : ∀ (U : State) (cA : ClassId), va_RA U cA ty → U.vm.findClass ("[" ++ ty.toString) = some cA)
    {k : Int32} {N' : Nat} {a0 : vp_A} (ha : ∀ cA : ClassId, vp_cell cA a0 = arrV cA N' (fun _ => defaultValue ty)) (hn : ¬ k < 0) (hN : k.toNatClampNeg = N') (hbytes : N' * componentBytes ty ≤ 536870912) (hcells : cells + 1 ≤ R.cells) (hslots : slots + N' ≤ R.slots) (hdg : decode cc pc = .ok (.newarray atype, 2))
    (kk : ∀ (q : Nat) (H1 : Heap), va_P D vwCl (ws ++ [(q, .inl (cI, a0))]) H1 → va_D A (ws ++ [(q, .inl (cI, a0))]) → va_S A H0 H1 locs → W p l e R s m args below meth c H1 locs (cells + 1) (slots + N') Q (F0 m (pc + 2) ls (.ref q :: rest))) : W p l e R s m args below meth c H locs cells slots Q (F0 m pc ls (.int k :: rest)) := by
  refine va_newa hexec hb harr hty hK hP hD hS hA ha hn hN hbytes hcells hslots hdg (fun q cA H1 hK1 hP1 hD1 hS1 => ?_)
  have h1 := hra _ _ (hK.2 t0 _ ht).2
  have h2 := hra _ _ (hK1.2 tys.length (cA, ty) (by simp)).2
  have e : cA = cI := Option.some.inj (h2.symm.trans h1)
  subst e
  exact kk q H1 hP1 hD1 hS1
theorem tm_raI (U : State) (cA : ClassId) (h : va_RA U cA .int) : U.vm.findClass ("[" ++ FieldType.int.toString) = some cA := h
theorem tm_raZ (U : State) (cA : ClassId) (h : va_RA U cA .boolean) : U.vm.findClass ("[" ++ FieldType.boolean.toString) = some cA := h
theorem tm_newq (hexec : p.tables.exec = Jvm.exec) (hb : c.code = cc) {C : String} (hown : s.vm.findClass own = some m.cls) (hclink : (Cond.classLink own index C).before args s = true) (hover : va_AO C s) (hK : va_K D vwCl tys s) (hP : va_P D vwCl ws H) (hD : va_D A ws) (hS : va_S A H0 H locs) (hA : ∀ q, H0.size ≤ q → A q) (t0 : Nat) {cR : ClassId} (ht : tys[t0]? = some (cR, .object C))
    {k : Int32} {N' : Nat} (hn : ¬ k < 0) (hN : k.toNatClampNeg = N') (hbytes : N' * 4 ≤ 536870912) (hcells : cells + 1 ≤ R.cells) (hslots : slots + N' ≤ R.slots) (hdg : decode cc pc = .ok (.anewarray index, 3))
    (kk : ∀ (q : Nat) (H1 : Heap), va_P D vwCl (ws ++ [(q, .inl (cR, N', .inr (.inr (.inr (.inr (fun _ => none))))))]) H1 → va_D A (ws ++ [(q, .inl (cR, N', .inr (.inr (.inr (.inr (fun _ => none))))))]) → va_S A H0 H1 locs → W p l e R s m args below meth c H1 locs (cells + 1) (slots + N') Q (F0 m (pc + 3) ls (.ref q :: rest))) : W p l e R s m args below meth c H locs cells slots Q (F0 m pc ls (.int k :: rest)) := by
  refine va_newq hexec hb hown hclink hover hK hP hD hS hA hn hN hbytes hcells hslots hdg (fun q cA H1 hK1 hP1 hD1 hS1 => ?_)
  obtain ⟨_, _, _, _, _, h1⟩ := (hK.2 t0 _ ht).2
  obtain ⟨_, _, _, _, _, h2⟩ := (hK1.2 tys.length (cA, .object C) (by simp)).2
  have e : cA = cR := Option.some.inj (h2.symm.trans h1)
  subst e
  exact kk q H1 hP1 hD1 hS1
end tmN
/-- what the objects hold when they are new -/
def tm_iX0 : tm_M := fun _ _ => 0
def tm_iX1 : tm_M := fun _ _ => 0
def tm_iX2 : tm_M := fun _ _ => 0
def tm_iX3 : tm_M := fun _ _ => 0
def tm_iX4 : tm_M := fun _ _ => 0
def tm_iX5 : tm_M := fun c => cond (Nat.beq c 0) (fun k => cond (Nat.beq k 2) 1 (cond (Nat.beq k 3) 100 (cond (Nat.beq k 4) 60 (cond (Nat.beq k 6) 1 0)))) (cond (Nat.beq c 1) (upd (fun _ => 0) (0 : Int32).toNatClampNeg 1) (cond (Nat.beq c 2) (upd (fun _ => 0) (0 : Int32).toNatClampNeg (-1)) (fun _ => 0)))
def tm_iX6 : tm_M := tm_cat 2 (fun _ _ => 0) (tm_cat 3 tm_iX5 (tm_cat 3 tm_iX5 (tm_cat 3 tm_iX5 (tm_cat 3 tm_iX5 (fun _ _ => 0)))))
def tm_iX7 (z : tm_M) : tm_M := tm_cat 1 (fun _ _ => 0) (tm_cat 3 tm_iX5 (tm_cat 26 z (tm_cat 14 tm_iX6 (tm_cat 3 tm_iX5 (tm_cat 26 tm_iX1 (fun _ _ => 0))))))
def tm_iX8 : tm_M := fun c => cond (Nat.beq c 1) (upd (upd (upd (upd (upd (upd (fun _ => 0) (0 : Int32).toNatClampNeg 1) (1 : Int32).toNatClampNeg 100) (2 : Int32).toNatClampNeg 60) (4 : Int32).toNatClampNeg 1) (5 : Int32).toNatClampNeg 1) (29 : Int32).toNatClampNeg (-1)) (fun _ => 0)
