/-! the words of this proof: memory as numbers, functions that may stop, loops, contracts -/
abbrev tm_M : Type := Nat → Nat → Int32
def tm_upc (d : tm_M) (c : Nat) (f : Nat → Int32) : tm_M := fun x => cond (Nat.beq x c) f (d x)
def tm_upk (d : tm_M) (c k : Nat) (v : Int32) : tm_M := fun x => cond (Nat.beq x c) (fun j => cond (Nat.beq j k) v (d x j)) (d x)
def tm_sh (d : tm_M) (o : Nat) : tm_M := fun x => d (x + o)
def tm_sq (q : Nat → Nat) (o : Nat) : Nat → Nat := fun x => q (x + o)
def tm_ins (d : tm_M) (o n : Nat) (r : tm_M) : tm_M := fun x => cond (Nat.ble o x && Nat.ble (x + 1) (o + n)) (r (x - o)) (d x)
def tm_nm {α β : Type} (a : α) (k : α → β) : β := k a
theorem tm_at {α β : Type} {a x : α} {k : α → β} {o : β} (e : x = a) (h : tm_nm a k = o) : k x = o := by subst e; exact h
def tm_gB {α : Type} (b : Bool) (x : Option α) : Option α := cond b x none
theorem tm_gS {α : Type} {b : Bool} {x : Option α} {o : α} (h : tm_gB b x = some o) : b = true ∧ x = some o := by
  cases b
  · exact absurd h (by simp [tm_gB])
  · exact ⟨rfl, h⟩
def tm_inb (i : Int32) (n : Nat) : Bool := decide (0 ≤ i.toInt) && decide (i.toInt < n)
theorem tm_inb_in {i : Int32} {n : Nat} (h : tm_inb i n = true) : vp_in i n := by
  simp only [tm_inb, Bool.and_eq_true, decide_eq_true_eq] at h
  exact vp_in_iff.mpr h
def tm_nz (i : Int32) : Bool := !(decide (i = 0))
theorem tm_nz_ne {i : Int32} (h : tm_nz i = true) : ¬ i = 0 := by
  simpa [tm_nz] using h
def tm_bl (i : Int32) : Bool := decide (i = 0) || decide (i = 1)
theorem tm_bl_nar {i : Int32} (h : tm_bl i = true) : narrow .boolean (.int i) = .int i := by
  simp only [tm_bl, Bool.or_eq_true, decide_eq_true_eq] at h
  rcases h with h | h <;> subst h <;> decide
def tm_nn (x : UInt32) : Bool := decide (x &&& 0x7fffffff ≤ 0x7f800000)
theorem tm_nn_n {x : UInt32} (h : tm_nn x = true) : vf_n32 x := by
  simpa [tm_nn, vf_n32] using h
theorem tm_bS {α β : Type} {x : Option α} {k : α → Option β} {o : β} (h : x.bind k = some o) : ∃ a, x = some a ∧ k a = some o := by
  cases x with
  | none => cases h
  | some a => exact ⟨a, rfl, h⟩
theorem tm_iT {c : Prop} [Decidable c] {α : Type} {a b o : α} (hc : c) (h : (if c then a else b) = o) : a = o := by
  rw [if_pos hc] at h; exact h
theorem tm_iF {c : Prop} [Decidable c] {α : Type} {a b o : α} (hc : ¬ c) (h : (if c then a else b) = o) : b = o := by
  rw [if_neg hc] at h; exact h
def tm_whl {σ ρ : Type} (body : σ → Option (σ ⊕ ρ)) : Nat → σ → Option ρ
  | 0, _ => none
  | n + 1, s => (body s).bind (fun r => match r with
    | .inl s' => tm_whl body n s'
    | .inr o => some o)
def tm_elm {σ ρ : Type} (P : σ → Prop) (Q : ρ → Prop) : σ ⊕ ρ → Prop
  | .inl s => P s
  | .inr o => Q o
theorem tm_whl_W {σ ρ : Type} {body : σ → Option (σ ⊕ ρ)} {Wh : σ → Prop} {Wx : ρ → Prop} (st : ∀ s r, body s = some r → tm_elm Wh Wx r → Wh s) : ∀ (n : Nat) (s : σ) (o : ρ), tm_whl body n s = some o → Wx o → Wh s := by
  intro n
  induction n with
  | zero => intro s o h; exact absurd h (by simp [tm_whl])
  | succ n ih =>
    intro s o h hx
    simp only [tm_whl] at h
    obtain ⟨r, hr, h⟩ := tm_bS h
    cases r with
    | inl s' => exact st s _ hr (ih s' o h hx)
    | inr o' =>
      have e : o' = o := Option.some.inj h
      subst e
      exact st s _ hr hx
abbrev tm_ty (cI cZ cR : ClassId) : List (ClassId × FieldType) := [(cI, .int), (cZ, .boolean), (cR, .object "TreemapLayout$State")]
def tm_Cx (p : Program) (s : State) (m : MethodId) (c : Code) (args : Array Value) (cc : ByteArray) (nL : Nat) (own : String) (Ts : List Cond) (D : va_G) (tys : List (ClassId × FieldType)) (A : Nat → Prop) (H0 : Heap) : Prop :=
  p.tables.exec = Jvm.exec ∧ c.code = cc ∧ c.maxLocals = nL ∧ s.vm.findClass own = some m.cls ∧ (∀ w ∈ Ts, w.before args s = true) ∧ va_K D vwCl tys s ∧ (∀ q, H0.size ≤ q → A q)
def tm_Pre (D : va_G) (tys : List (ClassId × FieldType)) (av : List Value) (w0 : va_W) (sz : Nat) : Array Value → State → Prop :=
  va_Pc av (fun U => U.heap.size = sz ∧ va_P D vwCl w0 U.heap ∧ va_K D vwCl tys U ∧ va_D (fun _ => True) w0)
def tm_Po (D : va_G) (tys : List (ClassId × FieldType)) (w0 w1 : va_W) (sz : Nat) : Unit → State → Prop :=
  fun _ t => va_P D vwCl w1 t.heap ∧ va_K D vwCl tys t ∧ va_D (va_A w0 sz) w1
theorem tm_blind {D : va_G} {tys : List (ClassId × FieldType)} {av : List Value} {w0 : va_W} {sz : Nat} : FrameBlind (tm_Pre D tys av w0 sz) :=
  fun a U g mk q => by
    obtain ⟨q0, q1, qP, qK, qD⟩ := q
    exact ⟨q0, q1, qP, va_K.moved (u := U) (U := U.calling g mk a) (Vm.Alike.refl U.vm) qK, qD⟩
def tm_CI (l : Launch) (D : va_G) (tys : List (ClassId × FieldType)) (y : MethodName) (ws : List Cond) (rm : Room) (av : List Value) (w0 : va_W) (r0 : Int32) (w1 : va_W) : Prop :=
  ∀ sz : Nat, Met l y ws rm (tm_Pre D tys av w0 sz) (va_Qi (fun r (_ : Unit) => r = r0) (tm_Po D tys w0 w1 sz) (va_A w0 sz)) 0 0 (va_A w0 sz)
def tm_CF (l : Launch) (D : va_G) (tys : List (ClassId × FieldType)) (y : MethodName) (ws : List Cond) (rm : Room) (av : List Value) (w0 : va_W) (r0 : UInt32) (w1 : va_W) : Prop :=
  ∀ sz : Nat, Met l y ws rm (tm_Pre D tys av w0 sz) (va_Qf (fun r (_ : Unit) => r = r0) (tm_Po D tys w0 w1 sz) (va_A w0 sz)) 0 0 (va_A w0 sz)
def tm_CL (l : Launch) (D : va_G) (tys : List (ClassId × FieldType)) (y : MethodName) (ws : List Cond) (rm : Room) (av : List Value) (w0 : va_W) (r0 : Int64) (w1 : va_W) : Prop :=
  ∀ sz : Nat, Met l y ws rm (tm_Pre D tys av w0 sz) (va_Ql (fun r (_ : Unit) => r = r0) (tm_Po D tys w0 w1 sz) (va_A w0 sz)) 0 0 (va_A w0 sz)
def tm_CV (l : Launch) (D : va_G) (tys : List (ClassId × FieldType)) (y : MethodName) (ws : List Cond) (rm : Room) (av : List Value) (w0 : va_W) (w1 : va_W) : Prop :=
  ∀ sz : Nat, Met l y ws rm (tm_Pre D tys av w0 sz) (va_Qv (fun (_ : Unit) => True) (tm_Po D tys w0 w1 sz) (va_A w0 sz)) 0 0 (va_A w0 sz)
/-- lists by places -/
theorem tm_fm {α : Type} {ws : List α} : ∀ (is : List Nat) (ws' : List α), is.map (fun i => ws[i]?) = ws'.map some → is.filterMap (fun i => ws[i]?) = ws' := by
  intro is
  induction is with
  | nil =>
    intro ws' h
    cases ws' with
    | nil => rfl
    | cons x xs => simp at h
  | cons i is ih =>
    intro ws' h
    cases ws' with
    | nil => simp at h
    | cons x xs =>
      simp only [List.map_cons, List.cons.injEq] at h
      rw [List.filterMap_cons, h.1]
      simp only [List.cons.injEq, true_and]
      exact ih xs h.2
def tm_lk {α : Type} (k : Nat) (x : α) : List Nat → List α → α
  | i :: is, y :: ys => cond (Nat.beq k i) y (tm_lk k x is ys)
  | _, _ => x
def tm_re {α : Type} (is : List Nat) (w1 : List α) : Nat → List α → List α
  | _, [] => []
  | k, x :: xs => tm_lk k x is w1 :: tm_re is w1 (k + 1) xs
theorem tm_lk_get {α : Type} (k : Nat) (x : α) : ∀ (is : List Nat) (w1 : List α), is.length = w1.length → (k ∉ is ∧ tm_lk k x is w1 = x) ∨ (∃ j : Nat, is[j]? = some k ∧ w1[j]? = some (tm_lk k x is w1)) := by
  intro is
  induction is with
  | nil =>
    intro w1 _
    left
    exact ⟨by simp, by cases w1 <;> rfl⟩
  | cons i is ih =>
    intro w1 hl
    cases w1 with
    | nil => simp at hl
    | cons y ys =>
      have hl' : is.length = ys.length := by simpa using hl
      by_cases e : k = i
      · subst e
        right
        refine ⟨0, rfl, ?_⟩
        simp [tm_lk]
      · have hb : Nat.beq k i = false := by
          cases hb : Nat.beq k i with
          | false => rfl
          | true => exact absurd (Nat.eq_of_beq_eq_true hb) e
        have h1 : tm_lk k x (i :: is) (y :: ys) = tm_lk k x is ys := by simp [tm_lk, hb]
        rw [h1]
        rcases ih ys hl' with ⟨h2, h3⟩ | ⟨j, h2, h3⟩
        · left
          refine ⟨?_, h3⟩
          intro hm
          rcases List.mem_cons.mp hm with hm | hm
          · exact e hm
          · exact h2 hm
        · right
          exact ⟨j + 1, h2, h3⟩
theorem tm_re_get {α : Type} (is : List Nat) (w1 : List α) (hl : is.length = w1.length) : ∀ (ws : List α) (k0 k : Nat) (q : α), (tm_re is w1 k0 ws)[k]? = some q → (k0 + k ∉ is ∧ ws[k]? = some q) ∨ (∃ j : Nat, is[j]? = some (k0 + k) ∧ w1[j]? = some q) := by
  intro ws
  induction ws with
  | nil => intro k0 k q h; simp [tm_re] at h
  | cons x xs ih =>
    intro k0 k q h
    cases k with
    | zero =>
      simp only [tm_re, List.getElem?_cons_zero, Option.some.injEq] at h
      rcases tm_lk_get k0 x is w1 hl with ⟨h2, h3⟩ | ⟨j, h2, h3⟩
      · left
        exact ⟨h2, by simp [← h, h3]⟩
      · right
        exact ⟨j, h2, by rw [h3, h]⟩
    | succ k =>
      simp only [tm_re, List.getElem?_cons_succ] at h
      rcases ih (k0 + 1) k q h with ⟨h2, h3⟩ | ⟨j, h2, h3⟩
      · left
        exact ⟨by rw [show k0 + (k + 1) = k0 + 1 + k by omega]; exact h2, by simpa using h3⟩
      · right
        exact ⟨j, by rw [show k0 + (k + 1) = k0 + 1 + k by omega]; exact h2, h3⟩
theorem tm_get0 {α : Type} {is : List Nat} {w1 ws : List α} (hl : is.length = w1.length) {k : Nat} {q : α} (h : (tm_re is w1 0 ws)[k]? = some q) : (k ∉ is ∧ ws[k]? = some q) ∨ (∃ j : Nat, is[j]? = some k ∧ w1[j]? = some q) := by
  have := tm_re_get is w1 hl ws 0 k q h
  rwa [Nat.zero_add] at this
theorem tm_join {A : Nat → Prop} {D : va_G} {cl : List vw_C} {ws wc w1 : va_W} {H H1 : Heap} (hP : va_P D cl ws H) (hD : va_D A ws) (is : List Nat) (hC : is.map (fun i => ws[i]?) = wc.map some) (ha : w1.map (fun x => x.1) = wc.map (fun x => x.1)) (hk : ∀ q : Nat, q < H.size → ¬ va_A wc H.size q → H1[q]? = H[q]?) (hP1 : va_P D cl w1 H1) : va_P D cl (tm_re is w1 0 ws) H1 ∧ va_D A (tm_re is w1 0 ws) := by
  have hl1 : is.length = wc.length := by have := congrArg List.length hC; simpa using this
  have hl2 : w1.length = wc.length := by have := congrArg List.length ha; simpa using this
  have hl : is.length = w1.length := by omega
  have hCj : ∀ j k : Nat, is[j]? = some k → ws[k]? = wc[j]? := by
    intro j k hj
    have h1 : (is.map (fun i => ws[i]?))[j]? = (wc.map some)[j]? := by rw [hC]
    rw [List.getElem?_map, List.getElem?_map, hj] at h1
    simp only [Option.map_some] at h1
    cases hw : wc[j]? with
    | none => rw [hw] at h1; simp at h1
    | some z => rw [hw] at h1; simpa using h1
  have haj : ∀ (j : Nat) (q : Nat × va_E), w1[j]? = some q → ∃ z, wc[j]? = some z ∧ z.1 = q.1 := by
    intro j q hq
    have h1 : (w1.map (fun x => x.1))[j]? = (wc.map (fun x => x.1))[j]? := by rw [ha]
    rw [List.getElem?_map, List.getElem?_map, hq] at h1
    cases hw : wc[j]? with
    | none => rw [hw] at h1; simp at h1
    | some z => rw [hw] at h1; exact ⟨z, rfl, by simpa using h1.symm⟩
  have hold : ∀ (k : Nat) (q : Nat × va_E), (tm_re is w1 0 ws)[k]? = some q → ∃ z, ws[k]? = some z ∧ z.1 = q.1 := by
    intro k q h
    rcases tm_get0 hl h with ⟨_, h2⟩ | ⟨j, h1, h2⟩
    · exact ⟨q, h2, rfl⟩
    · obtain ⟨z, hz, e⟩ := haj j q h2
      exact ⟨z, by rw [hCj j k h1, hz], e⟩
  refine ⟨?_, ?_, ?_⟩
  · intro k q h
    rcases tm_get0 hl h with ⟨h1, h2⟩ | ⟨j, h1, h2⟩
    · refine (hP k q h2).kept ?_
      refine hk q.1 (hP k q h2).lt ?_
      intro hA
      rcases hA with ⟨j, e, hj⟩ | hge
      · have hlt : j < is.length := by rw [hl1]; exact (List.getElem?_eq_some_iff.mp hj).1
        have hj2 : is[j]? = some is[j] := List.getElem?_eq_getElem hlt
        have h3 := hCj j _ hj2
        rw [hj] at h3
        have h4 := hD.1 _ _ _ _ h3 h2 rfl
        exact h1 (h4 ▸ List.getElem_mem hlt)
      · exact absurd (hP k q h2).lt (Nat.not_lt.mpr hge)
    · exact hP1 j q h2
  · intro i j p q hi hj e
    obtain ⟨z1, hz1, e1⟩ := hold i p hi
    obtain ⟨z2, hz2, e2⟩ := hold j q hj
    exact hD.1 i j z1 z2 hz1 hz2 (by rw [e1, e2, e])
  · intro k q h
    obtain ⟨z, hz, e⟩ := hold k q h
    rw [← e]
    exact hD.2 k z hz
