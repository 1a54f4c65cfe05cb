/-! trees: children, depths -/
/-- how many of the nodes 1 .. k-1 have the parent p -/
def tm_cc (par : Nat → Nat) (p : Nat) : Nat → Nat
  | 0 => 0
  | k + 1 => if k ≠ 0 ∧ par k = p then tm_cc par p k + 1 else tm_cc par p k
/-- they, in rising order -/
def tm_kd (par : Nat → Nat) (p : Nat) : Nat → Nat → Nat
  | 0 => fun _ => 0
  | k + 1 => fun j => if (k ≠ 0 ∧ par k = p) ∧ j = tm_cc par p k then k else tm_kd par p k j
theorem tm_kd_in {par : Nat → Nat} {p : Nat} : ∀ k j, j < tm_cc par p k → tm_kd par p k j < k ∧ tm_kd par p k j ≠ 0 ∧ par (tm_kd par p k j) = p ∧ tm_cc par p (tm_kd par p k j) = j := by
  intro k
  induction k with
  | zero => intro j hj; exact absurd hj (by simp only [tm_cc]; omega)
  | succ k ih =>
    intro j hj
    simp only [tm_cc] at hj
    simp only [tm_kd]
    by_cases h : k ≠ 0 ∧ par k = p
    · rw [if_pos h] at hj
      by_cases e : j = tm_cc par p k
      · rw [if_pos ⟨h, e⟩]
        exact ⟨by omega, h.1, h.2, e.symm⟩
      · rw [if_neg (fun q => e q.2)]
        have := ih j (by omega)
        exact ⟨by omega, this.2⟩
    · rw [if_neg h] at hj
      rw [if_neg (fun q => h q.1)]
      have := ih j hj
      exact ⟨by omega, this.2⟩
theorem tm_cc_mono {par : Nat → Nat} {p i : Nat} : ∀ q, tm_cc par p i ≤ tm_cc par p (i + q) := by
  intro q
  induction q with
  | zero => exact Nat.le_refl _
  | succ q ih =>
    rw [← Nat.add_assoc]
    simp only [tm_cc]
    split <;> omega
theorem tm_kd_at {par : Nat → Nat} {p : Nat} : ∀ k i, i < k → i ≠ 0 → par i = p → tm_cc par p i < tm_cc par p k ∧ tm_kd par p k (tm_cc par p i) = i := by
  intro k
  induction k with
  | zero => intro i hi; omega
  | succ k ih =>
    intro i hi h0 hp
    simp only [tm_kd]
    by_cases e : i = k
    · subst e
      refine ⟨?_, if_pos ⟨⟨h0, hp⟩, rfl⟩⟩
      simp only [tm_cc]
      rw [if_pos ⟨h0, hp⟩]
      omega
    · obtain ⟨a, b⟩ := ih i (by omega) h0 hp
      refine ⟨?_, ?_⟩
      · have := tm_cc_mono (par := par) (p := p) (i := k) 1
        omega
      · rw [if_neg (fun q => by omega)]
        exact b
theorem tm_kd_inj {par : Nat → Nat} {p k i j : Nat} (hi : i < tm_cc par p k) (hj : j < tm_cc par p k) (h : tm_kd par p k i = tm_kd par p k j) : i = j := by
  have a := (tm_kd_in k i hi).2.2.2
  have b := (tm_kd_in k j hj).2.2.2
  rw [← a, ← b, h]
theorem tm_cc_le {par : Nat → Nat} {p : Nat} : ∀ k, tm_cc par p k ≤ k := by
  intro k
  induction k with
  | zero => exact Nat.le_refl _
  | succ k ih =>
    simp only [tm_cc]
    split <;> omega
/-- a tree of n nodes with the depths dep -/
def tm_tree (n : Nat) (par dep : Nat → Nat) : Prop := 1 ≤ n ∧ n ≤ 24 ∧ dep 0 = 0 ∧ ∀ i, i ≠ 0 → i < n → par i < n ∧ dep i = dep (par i) + 1
theorem tm_pigeon : ∀ (n m : Nat) (f : Nat → Nat), (∀ k, k < m → f k < n) → (∀ i j, i < m → j < m → f i = f j → i = j) → m ≤ n := by
  intro n
  induction n with
  | zero =>
    intro m f hf _
    cases m with
    | zero => exact Nat.le_refl _
    | succ m => exact absurd (hf 0 (by omega)) (by omega)
  | succ n ih =>
    intro m f hf hi
    cases m with
    | zero => omega
    | succ m =>
      -- the last place gives its number up
      have := ih m (fun k => if f k = n then f m else f k) (fun k hk => by
        by_cases e : f k = n
        · rw [if_pos e]
          have := hf m (by omega)
          have hne : f m ≠ n := fun q => by
            have := hi k m (by omega) (by omega) (by omega)
            omega
          omega
        · rw [if_neg e]
          have := hf k (by omega)
          omega) (fun i j hi' hj' h => by
        by_cases e1 : f i = n
        · by_cases e2 : f j = n
          · exact hi i j (by omega) (by omega) (by omega)
          · rw [if_pos e1, if_neg e2] at h
            have := hi m j (by omega) (by omega) h
            omega
        · by_cases e2 : f j = n
          · rw [if_neg e1, if_pos e2] at h
            have := hi i m (by omega) (by omega) h
            omega
          · rw [if_neg e1, if_neg e2] at h
            exact hi i j (by omega) (by omega) h)
      omega
theorem tm_dep_down {n : Nat} {par dep : Nat → Nat} (ht : tm_tree n par dep) : ∀ (q i k : Nat), i < n → dep i = k + q → ∃ a, a < n ∧ dep a = k := by
  intro q
  induction q with
  | zero => intro i k hi h; exact ⟨i, hi, h⟩
  | succ q ih =>
    intro i k hi h
    have h0 : i ≠ 0 := fun e => by
      rw [e, ht.2.2.1] at h
      omega
    obtain ⟨a, b⟩ := ht.2.2.2 i h0 hi
    exact ih (par i) k a (by omega)
theorem tm_dep_lt {n : Nat} {par dep : Nat → Nat} (ht : tm_tree n par dep) {i : Nat} (hi : i < n) : dep i < n := by
  have key : ∀ k, ∃ a, k ≤ dep i → a < n ∧ dep a = k := fun k => by
    by_cases h : k ≤ dep i
    · obtain ⟨a, h1⟩ := tm_dep_down ht (dep i - k) i k hi (by omega)
      exact ⟨a, fun _ => h1⟩
    · exact ⟨0, fun q => absurd q h⟩
  have := tm_pigeon n (dep i + 1) (fun k => (key k).choose) (fun k hk => ((key k).choose_spec (by omega)).1) (fun a b ha hb h => by
    have e1 := ((key a).choose_spec (by omega)).2
    have e2 := ((key b).choose_spec (by omega)).2
    rw [← e1, ← e2, h])
  omega
theorem tm_dep_uq {n : Nat} {par dep dep' : Nat → Nat} (ht : tm_tree n par dep) (ht' : tm_tree n par dep') : ∀ k i, i < n → dep i = k → dep' i = k := by
  intro k
  induction k with
  | zero =>
    intro i hi h
    by_cases h0 : i = 0
    · rw [h0]; exact ht'.2.2.1
    · have := (ht.2.2.2 i h0 hi).2
      omega
  | succ k ih =>
    intro i hi h
    have h0 : i ≠ 0 := fun e => by
      rw [e, ht.2.2.1] at h
      omega
    obtain ⟨a, b⟩ := ht.2.2.2 i h0 hi
    obtain ⟨a', b'⟩ := ht'.2.2.2 i h0 hi
    rw [b', ih (par i) a (by omega)]
