/-! the aspect ratios: one float for class and reference -/
def tm_pf (a b : Nat) (x : UInt32) : Prop := a * 2 ^ 23 ≤ x.toNat ∧ x.toNat < b * 2 ^ 23
theorem tm_pf_nn {a b : Nat} {x : UInt32} (h : tm_pf a b x) (hb : b ≤ 255) : tm_nn x = true := tmf_nn (Nat.lt_of_lt_of_le h.2 (Nat.mul_le_mul_right _ hb))
theorem tm_pf_w {a b a' b' : Nat} {x : UInt32} (h : tm_pf a b x) (ha : a' ≤ a) (hb : b ≤ b') : tm_pf a' b' x := ⟨Nat.le_trans (Nat.mul_le_mul_right _ ha) h.1, Nat.lt_of_lt_of_le h.2 (Nat.mul_le_mul_right _ hb)⟩
theorem tm_pf_lt {a b : Nat} {x : UInt32} (h : tm_pf a b x) (hb : b ≤ 255) : x.toNat < 255 * 2 ^ 23 := Nat.lt_of_lt_of_le h.2 (Nat.mul_le_mul_right _ hb)
theorem tm_cmp {x y : UInt32} {op : CmpOp} (hx : x.toNat < 255 * 2 ^ 23) (hy : y.toNat < 255 * 2 ^ 23) : (Op.cmpValue (FP.fcmp x y) op < 0 ↔ x.toNat < y.toNat) ∧ (Op.cmpValue (FP.fcmp x y) op ≤ 0 ↔ x.toNat ≤ y.toNat) ∧ (0 < Op.cmpValue (FP.fcmp x y) op ↔ y.toNat < x.toNat) := by
  have hnx : FP.Core.val32 x ≠ .nan := (FP.Core.ne_nan32 x).mpr (by rw [Nat.mod_eq_of_lt (by omega)]; omega)
  have hny : FP.Core.val32 y ≠ .nan := (FP.Core.ne_nan32 y).mpr (by rw [Nat.mod_eq_of_lt (by omega)]; omega)
  obtain ⟨m1, m2, m3⟩ := FP.Core.mono_bits32 hnx hny (by omega) (by omega)
  rcases Nat.lt_trichotomy x.toNat y.toNat with h | h | h
  · have e : FP.fcmp x y = some .lt := m1.mpr h
    rw [e]
    have v : Op.cmpValue (some Ordering.lt) op = -1 := by cases op <;> rfl
    rw [v]
    exact ⟨⟨fun _ => h, fun _ => by decide⟩, ⟨fun _ => by omega, fun _ => by decide⟩, ⟨fun c => absurd c (by decide), fun c => by omega⟩⟩
  · have e : FP.fcmp x y = some .eq := m2.mpr h
    rw [e]
    have v : Op.cmpValue (some Ordering.eq) op = 0 := by cases op <;> rfl
    rw [v]
    exact ⟨⟨fun c => absurd c (by decide), fun c => by omega⟩, ⟨fun _ => by omega, fun _ => by decide⟩, ⟨fun c => absurd c (by decide), fun c => by omega⟩⟩
  · have e : FP.fcmp x y = some .gt := m3.mpr h
    rw [e]
    have v : Op.cmpValue (some Ordering.gt) op = 1 := by cases op <;> rfl
    rw [v]
    exact ⟨⟨fun c => absurd c (by decide), fun c => by omega⟩, ⟨fun c => absurd c (by decide), fun c => by omega⟩, ⟨fun _ => h, fun _ => by decide⟩⟩
def tm_unit (w h T : Nat) : UInt32 := FP.fdiv (FP.i2f (nI (w * h))) (FP.i2f (nI T))
def tm_thk (S : Nat) (u : UInt32) (w : Nat) : UInt32 := FP.fdiv (FP.fmul (FP.i2f (nI S)) u) (FP.i2f (nI w))
def tm_len (s : Nat) (u t : UInt32) : UInt32 := FP.fdiv (FP.fmul (FP.i2f (nI s)) u) t
def tm_rat (s : Nat) (u t : UInt32) : UInt32 := if (FP.fdiv (tm_len s u t) t).toNat < (FP.fdiv t (tm_len s u t)).toNat then FP.fdiv t (tm_len s u t) else FP.fdiv (tm_len s u t) t
theorem tm_i2f_12 {k : Nat} (h1 : 1 ≤ k) (h2 : k ≤ 2400) : tm_pf 127 140 (FP.i2f (nI k)) := tmf_i2f (j := 12) h1 (by omega) (by decide)
theorem tm_i2f_8 {k : Nat} (h1 : 1 ≤ k) (h2 : k ≤ 200) : tm_pf 127 136 (FP.i2f (nI k)) := tmf_i2f (j := 8) h1 (by omega) (by decide)
theorem tm_i2f_16 {k : Nat} (h1 : 1 ≤ k) (h2 : k ≤ 40000) : tm_pf 127 144 (FP.i2f (nI k)) := tmf_i2f (j := 16) h1 (by omega) (by decide)
theorem tm_i2f_5 {k : Nat} (h1 : 1 ≤ k) (h2 : k ≤ 24) : tm_pf 127 133 (FP.i2f (nI k)) := tmf_i2f (j := 5) h1 (by omega) (by decide)
theorem tm_unit_pf {w h T : Nat} (hw : 1 ≤ w ∧ w ≤ 200) (hh : 1 ≤ h ∧ h ≤ 200) (hT : 1 ≤ T ∧ T ≤ 2400) : tm_pf 114 145 (tm_unit w h T) := by
  have h1 := tm_i2f_16 (k := w * h) (Nat.mul_pos (by omega) (by omega)) (Nat.mul_le_mul hw.2 hh.2)
  have h2 := tm_i2f_12 hT.1 hT.2
  exact tmf_div h1.1 h1.2 h2.1 h2.2 (by decide) (by decide) (by decide) (by decide) 114 145 (by decide) (by decide) (by decide) (by decide) (by decide) (by decide)
theorem tm_mul_pf {S : Nat} {u : UInt32} (hS : 1 ≤ S ∧ S ≤ 2400) (hu : tm_pf 114 145 u) : tm_pf 114 159 (FP.fmul (FP.i2f (nI S)) u) := by
  have h1 := tm_i2f_12 hS.1 hS.2
  exact tmf_mul h1.1 h1.2 hu.1 hu.2 (by decide) (by decide) (by decide) (by decide) 114 159 (by decide) (by decide) (by decide) (by decide) (by decide) (by decide)
theorem tm_thk_pf {S w : Nat} {u : UInt32} (hS : 1 ≤ S ∧ S ≤ 2400) (hu : tm_pf 114 145 u) (hw : 1 ≤ w ∧ w ≤ 200) : tm_pf 105 160 (tm_thk S u w) := by
  have h1 := tm_mul_pf hS hu
  have h2 := tm_i2f_8 hw.1 hw.2
  exact tmf_div h1.1 h1.2 h2.1 h2.2 (by decide) (by decide) (by decide) (by decide) 105 160 (by decide) (by decide) (by decide) (by decide) (by decide) (by decide)
theorem tm_len_pf {s : Nat} {u t : UInt32} (hs : 1 ≤ s ∧ s ≤ 2400) (hu : tm_pf 114 145 u) (ht : tm_pf 105 160 t) : tm_pf 81 182 (tm_len s u t) := by
  have h1 := tm_mul_pf hs hu
  exact tmf_div h1.1 h1.2 ht.1 ht.2 (by decide) (by decide) (by decide) (by decide) 81 182 (by decide) (by decide) (by decide) (by decide) (by decide) (by decide)
theorem tm_lt_pf {s : Nat} {u t : UInt32} (hs : 1 ≤ s ∧ s ≤ 2400) (hu : tm_pf 114 145 u) (ht : tm_pf 105 160 t) : tm_pf 48 207 (FP.fdiv (tm_len s u t) t) ∧ tm_pf 48 207 (FP.fdiv t (tm_len s u t)) := by
  have h1 := tm_len_pf hs hu ht
  exact ⟨tmf_div h1.1 h1.2 ht.1 ht.2 (by decide) (by decide) (by decide) (by decide) 48 207 (by decide) (by decide) (by decide) (by decide) (by decide) (by decide), tmf_div ht.1 ht.2 h1.1 h1.2 (by decide) (by decide) (by decide) (by decide) 48 207 (by decide) (by decide) (by decide) (by decide) (by decide) (by decide)⟩
theorem tm_rat_pf {s : Nat} {u t : UInt32} (hs : 1 ≤ s ∧ s ≤ 2400) (hu : tm_pf 114 145 u) (ht : tm_pf 105 160 t) : tm_pf 48 207 (tm_rat s u t) := by
  have h := tm_lt_pf hs hu ht
  unfold tm_rat
  split
  · exact h.2
  · exact h.1
theorem tmX2_ratio {N s : Nat} {u t : UInt32} (hs : 1 ≤ s ∧ s ≤ 2400) (hu : tm_pf 114 145 u) (ht : tm_pf 105 160 t) : fX2_ratio N (nI s) u t = some (tm_rat s u t) := by
  have h1 := tm_mul_pf hs hu
  have h2 := tm_len_pf hs hu ht
  have h3 := tm_lt_pf hs hu ht
  have h4 := (tm_cmp (op := .l) (tm_pf_lt h3.1 (by decide)) (tm_pf_lt h3.2 (by decide))).1
  have hz : FP.fconst0.toNat < 255 * 2 ^ 23 := by decide
  have hz0 : FP.fconst0.toNat = 0 := by decide
  have g1 : ¬ Op.cmpValue (FP.fcmp t FP.fconst0) .l ≤ 0 := fun h => by
    have a := (tm_cmp (op := .l) (tm_pf_lt ht (by decide)) hz).2.1.mp h
    have b := ht.1
    omega
  have g2 : 0 < Op.cmpValue (FP.fcmp (tm_len s u t) FP.fconst0) .g := (tm_cmp (op := .g) (tm_pf_lt h2 (by decide)) hz).2.2.mpr (by have b := h2.1; omega)
  simp only [fX2_ratio]
  rw [if_neg g1, tm_gT (tm_pf_nn h1 (by decide)), show FP.fdiv (FP.fmul (FP.i2f (nI s)) u) t = tm_len s u t from rfl, tm_gT (tm_pf_nn h2 (by decide))]
  simp only [tm_nm]
  rw [if_pos g2, tm_gT (tm_pf_nn h3.1 (by decide)), tm_gT (tm_pf_nn h3.2 (by decide))]
  unfold tm_rat
  by_cases hc : (FP.fdiv (tm_len s u t) t).toNat < (FP.fdiv t (tm_len s u t)).toNat
  · rw [if_pos hc, if_pos (h4.mpr hc)]
  · rw [if_neg hc, if_neg (fun h => hc (h4.mp h))]
/-- the sum of the aspect ratios, and the greatest of them -/
def tm_rsum (sz : Nat → Nat) (u t : UInt32) : Nat → UInt32
  | 0 => FP.fconst0
  | n + 1 => FP.fadd (tm_rsum sz u t n) (tm_rat (sz n) u t)
def tm_rmax (sz : Nat → Nat) (u t : UInt32) : Nat → UInt32
  | 0 => FP.fconst0
  | n + 1 => if (tm_rat (sz n) u t).toNat < (tm_rmax sz u t n).toNat then tm_rmax sz u t n else tm_rat (sz n) u t
def tm_avg (sz : Nat → Nat) (n : Nat) (u : UInt32) (w : Nat) : UInt32 := FP.fdiv (tm_rsum sz u (tm_thk (tm_sum sz n) u w) n) (FP.i2f (nI n))
def tm_wst (sz : Nat → Nat) (n : Nat) (u : UInt32) (w : Nat) : UInt32 := tm_rmax sz u (tm_thk (tm_sum sz n) u w) n
theorem tm_rsum_pf {sz : Nat → Nat} {u t : UInt32} (hu : tm_pf 114 145 u) (ht : tm_pf 105 160 t) : ∀ n, n ≤ 23 → (∀ j, j < n + 1 → 1 ≤ sz j ∧ sz j ≤ 2400) → tm_pf 48 (207 + 2 * n) (tm_rsum sz u t (n + 1)) := by
  intro n
  induction n with
  | zero =>
    intro _ hs
    have h := tm_rat_pf (hs 0 (by omega)) hu ht
    have e : tm_rsum sz u t 1 = tm_rat (sz 0) u t := tmf_add0 (tm_pf_lt h (by decide))
    rw [e]
    exact h
  | succ n ih =>
    intro hn hs
    have h1 := ih (by omega) (fun j hj => hs j (by omega))
    have h2 := tm_rat_pf (hs (n + 1) (by omega)) hu ht
    have h3 := tmf_add (a := 48) (b := 207 + 2 * n) h1.1 h1.2 (Nat.lt_of_lt_of_le h2.2 (Nat.mul_le_mul_right _ (by omega))) (by omega) (by decide)
    exact ⟨h3.1, h3.2⟩
theorem tm_rmax_pf {sz : Nat → Nat} {u t : UInt32} (hu : tm_pf 114 145 u) (ht : tm_pf 105 160 t) : ∀ n, (∀ j, j < n + 1 → 1 ≤ sz j ∧ sz j ≤ 2400) → tm_pf 48 207 (tm_rmax sz u t (n + 1)) := by
  intro n
  induction n with
  | zero =>
    intro hs
    have h := tm_rat_pf (hs 0 (by omega)) hu ht
    have e : tm_rmax sz u t 1 = tm_rat (sz 0) u t := if_neg (Nat.not_lt_zero _)
    rw [e]
    exact h
  | succ n ih =>
    intro hs
    have h1 := ih (fun j hj => hs j (by omega))
    have h2 := tm_rat_pf (hs (n + 1) (by omega)) hu ht
    rw [tm_rmax]
    split
    · exact h1
    · exact h2
theorem tm_rmax_lt {sz : Nat → Nat} {u t : UInt32} (hu : tm_pf 114 145 u) (ht : tm_pf 105 160 t) (n : Nat) (hs : ∀ j, j < n → 1 ≤ sz j ∧ sz j ≤ 2400) : (tm_rmax sz u t n).toNat < 255 * 2 ^ 23 := by
  cases n with
  | zero => exact (by decide : FP.fconst0.toNat < 255 * 2 ^ 23)
  | succ n => exact tm_pf_lt (tm_rmax_pf hu ht n hs) (by decide)
theorem tm_rsum_lt {sz : Nat → Nat} {u t : UInt32} (hu : tm_pf 114 145 u) (ht : tm_pf 105 160 t) (n : Nat) (hn : n ≤ 24) (hs : ∀ j, j < n → 1 ≤ sz j ∧ sz j ≤ 2400) : (tm_rsum sz u t n).toNat < 255 * 2 ^ 23 := by
  cases n with
  | zero => exact (by decide : FP.fconst0.toNat < 255 * 2 ^ 23)
  | succ n => exact tm_pf_lt (tm_rsum_pf hu ht n (by omega) hs) (by omega)
theorem tm_avg_pf {sz : Nat → Nat} {n w : Nat} {u : UInt32} (hu : tm_pf 114 145 u) (hw : 1 ≤ w ∧ w ≤ 200) (hn : 1 ≤ n ∧ n ≤ 24) (hs : ∀ j, j < n → 1 ≤ sz j ∧ sz j ≤ 2400) (hS : tm_sum sz n ≤ 2400) : tm_pf 42 254 (tm_avg sz n u w) := by
  obtain ⟨k, rfl⟩ : ∃ k, n = k + 1 := ⟨n - 1, by omega⟩
  have hS1 : 0 < tm_sum sz (k + 1) := tm_sum_pos (by omega) (fun j hj => (hs j hj).1)
  have ht := tm_thk_pf ⟨hS1, hS⟩ hu hw
  have h1 := tm_rsum_pf hu ht k (by omega) hs
  have h1 := tm_pf_w h1 (Nat.le_refl 48) (show 207 + 2 * k ≤ 253 by omega)
  have h2 := tm_i2f_5 hn.1 hn.2
  exact tmf_div h1.1 h1.2 h2.1 h2.2 (by decide) (by decide) (by decide) (by decide) 42 254 (by decide) (by decide) (by decide) (by decide) (by decide) (by decide)
