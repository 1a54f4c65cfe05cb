/-! apportionment: the numbers, and the class's Shares -/
def tm_sum (f : Nat → Nat) : Nat → Nat
  | 0 => 0
  | n + 1 => tm_sum f n + f n
theorem tm_sum_c {f g : Nat → Nat} : ∀ n, (∀ j, j < n → f j = g j) → tm_sum f n = tm_sum g n := by
  intro n
  induction n with
  | zero => intro _; rfl
  | succ n ih => intro h; simp only [tm_sum]; rw [ih (fun j hj => h j (by omega)), h n (by omega)]
theorem tm_sum_le {f g : Nat → Nat} : ∀ n, (∀ j, j < n → f j ≤ g j) → tm_sum f n ≤ tm_sum g n := by
  intro n
  induction n with
  | zero => intro _; exact Nat.le_refl _
  | succ n ih => intro h; simp only [tm_sum]; exact Nat.add_le_add (ih (fun j hj => h j (by omega))) (h n (by omega))
theorem tm_sum_add (f g : Nat → Nat) : ∀ n, tm_sum (fun j => f j + g j) n = tm_sum f n + tm_sum g n := by
  intro n
  induction n with
  | zero => rfl
  | succ n ih => simp only [tm_sum]; rw [ih]; omega
theorem tm_sum_mul (f : Nat → Nat) (c : Nat) : ∀ n, tm_sum (fun j => f j * c) n = tm_sum f n * c := by
  intro n
  induction n with
  | zero => simp [tm_sum]
  | succ n ih => simp only [tm_sum]; rw [ih, Nat.add_mul]
theorem tm_sum_const (c : Nat) : ∀ n, tm_sum (fun _ => c) n = n * c := by
  intro n
  induction n with
  | zero => simp [tm_sum]
  | succ n ih => simp only [tm_sum]; rw [ih, Nat.succ_mul]
theorem tm_sum_ge {f : Nat → Nat} {j : Nat} : ∀ n, j < n → f j ≤ tm_sum f n := by
  intro n
  induction n with
  | zero => intro h; omega
  | succ n ih =>
    intro h
    simp only [tm_sum]
    by_cases e : j = n
    · subst e; omega
    · have := ih (by omega); omega
theorem tm_sum_mono {f : Nat → Nat} {a b : Nat} (h : a ≤ b) : tm_sum f a ≤ tm_sum f b := by
  obtain ⟨k, rfl⟩ : ∃ k, b = a + k := ⟨b - a, by omega⟩
  clear h
  induction k with
  | zero => exact Nat.le_refl _
  | succ k ih => rw [← Nat.add_assoc]; simp only [tm_sum]; omega
/-- the best that is free, of the first k: the greatest remainder, of equal ones the first -/
def tm_best (r : Nat → Nat) (g : Nat → Bool) : Nat → Option Nat
  | 0 => none
  | k + 1 => match tm_best r g k with
    | none => if g k = true then none else some k
    | some b => if g k = true then some b else if r b < r k then some k else some b
/-- who has been given a pixel after t turns -/
def tm_gv (r : Nat → Nat) (m : Nat) : Nat → Nat → Bool
  | 0 => fun _ => false
  | t + 1 => match tm_best r (tm_gv r m t) m with
    | none => tm_gv r m t
    | some b => fun j => decide (j = b) || tm_gv r m t j
def tm_fl (s : Nat → Nat) (T L : Nat) : Nat → Nat := fun j => s j * L / T
def tm_rm (s : Nat → Nat) (T L : Nat) : Nat → Nat := fun j => s j * L % T
def tm_left (s : Nat → Nat) (m L : Nat) : Nat := L - tm_sum (tm_fl s (tm_sum s m) L) m
def tm_app (s : Nat → Nat) (m L : Nat) : Nat → Nat := fun j => tm_fl s (tm_sum s m) L j + (if tm_gv (tm_rm s (tm_sum s m) L) m (tm_left s m L) j = true then 1 else 0)
theorem tm_best_spec {r : Nat → Nat} {g : Nat → Bool} : ∀ k, (tm_best r g k = none ∧ ∀ j, j < k → g j = true) ∨ ∃ b, tm_best r g k = some b ∧ b < k ∧ g b = false := by
  intro k
  induction k with
  | zero => left; exact ⟨rfl, fun j h => by omega⟩
  | succ k ih =>
    rcases ih with ⟨h1, h2⟩ | ⟨b, h1, h2, h3⟩
    · simp only [tm_best, h1]
      by_cases hg : g k = true
      · left
        refine ⟨by simp [hg], fun j hj => ?_⟩
        by_cases e : j = k
        · subst e; exact hg
        · exact h2 j (by omega)
      · right
        exact ⟨k, by simp [hg], by omega, by simpa using hg⟩
    · right
      simp only [tm_best, h1]
      by_cases hg : g k = true
      · exact ⟨b, by simp [hg], by omega, h3⟩
      · by_cases hr : r b < r k
        · exact ⟨k, by simp [hg, hr], by omega, by simpa using hg⟩
        · exact ⟨b, by simp [hg, hr], by omega, h3⟩
def tm_cnt (g : Nat → Bool) : Nat → Nat := tm_sum (fun j => if g j = true then 1 else 0)
theorem tm_cnt_all {g : Nat → Bool} : ∀ m, (∀ j, j < m → g j = true) → tm_cnt g m = m := by
  intro m h
  have : tm_cnt g m = tm_sum (fun _ => 1) m := tm_sum_c m (fun j hj => by simp [h j hj])
  rw [this, tm_sum_const]; omega
theorem tm_cnt_ins {g : Nat → Bool} {b : Nat} (hb : g b = false) : ∀ m, tm_cnt (fun j => decide (j = b) || g j) m = tm_cnt g m + (if b < m then 1 else 0) := by
  intro m
  induction m with
  | zero => simp [tm_cnt, tm_sum]
  | succ m ih =>
    have e1 : tm_cnt (fun j => decide (j = b) || g j) (m + 1) = tm_cnt (fun j => decide (j = b) || g j) m + (if (decide (m = b) || g m) = true then 1 else 0) := rfl
    have e2 : tm_cnt g (m + 1) = tm_cnt g m + (if g m = true then 1 else 0) := rfl
    rw [e1, e2, ih]
    by_cases e : m = b
    · subst e
      simp [hb]
    · have h1 : (decide (m = b) || g m) = g m := by simp [e]
      rw [h1]
      by_cases h2 : b < m
      · rw [if_pos h2, if_pos (show b < m + 1 by omega)]; omega
      · rw [if_neg h2, if_neg (show ¬ b < m + 1 by omega)]; omega
theorem tm_gv_cnt {r : Nat → Nat} {m : Nat} : ∀ t, t ≤ m → tm_cnt (tm_gv r m t) m = t := by
  intro t
  induction t with
  | zero =>
    intro _
    have : tm_cnt (tm_gv r m 0) m = tm_sum (fun _ => 0) m := tm_sum_c m (fun j hj => by simp [tm_gv])
    rw [this, tm_sum_const]; omega
  | succ t ih =>
    intro ht
    have ih := ih (by omega)
    rcases tm_best_spec (r := r) (g := tm_gv r m t) m with ⟨h1, h2⟩ | ⟨b, h1, h2, h3⟩
    · have := tm_cnt_all m h2; omega
    · have e : tm_gv r m (t + 1) = fun j => decide (j = b) || tm_gv r m t j := by simp only [tm_gv, h1]
      rw [e, tm_cnt_ins h3, ih, if_pos h2]
theorem tm_gv_step {r : Nat → Nat} {m t : Nat} (ht : t < m) : ∃ b, tm_best r (tm_gv r m t) m = some b ∧ b < m ∧ tm_gv r m t b = false ∧ tm_gv r m (t + 1) = fun j => decide (j = b) || tm_gv r m t j := by
  rcases tm_best_spec (r := r) (g := tm_gv r m t) m with ⟨h1, h2⟩ | ⟨b, h1, h2, h3⟩
  · have := tm_cnt_all m h2
    have := tm_gv_cnt (r := r) (m := m) t (by omega)
    omega
  · exact ⟨b, h1, h2, h3, by simp only [tm_gv, h1]⟩
theorem tm_fl_sum (s : Nat → Nat) (m L : Nat) (hT : 0 < tm_sum s m) : tm_sum (tm_fl s (tm_sum s m) L) m * tm_sum s m + tm_sum (tm_rm s (tm_sum s m) L) m = L * tm_sum s m := by
  rw [← tm_sum_mul, ← tm_sum_add]
  have : tm_sum (fun j => tm_fl s (tm_sum s m) L j * tm_sum s m + tm_rm s (tm_sum s m) L j) m = tm_sum (fun j => s j * L) m :=
    tm_sum_c m (fun j _ => by simp only [tm_fl, tm_rm]; rw [Nat.mul_comm]; exact Nat.div_add_mod _ _)
  rw [this, tm_sum_mul, Nat.mul_comm]
theorem tm_fl_le (s : Nat → Nat) (m L : Nat) (hT : 0 < tm_sum s m) : tm_sum (tm_fl s (tm_sum s m) L) m ≤ L := by
  have h := tm_fl_sum s m L hT
  have h2 : tm_sum (tm_fl s (tm_sum s m) L) m * tm_sum s m ≤ L * tm_sum s m := by omega
  exact Nat.le_of_mul_le_mul_right h2 hT
theorem tm_left_lt (s : Nat → Nat) (m L : Nat) (hm : 0 < m) (hT : 0 < tm_sum s m) : tm_left s m L < m := by
  have h := tm_fl_sum s m L hT
  have h1 := tm_fl_le s m L hT
  have h2 : tm_left s m L * tm_sum s m = tm_sum (tm_rm s (tm_sum s m) L) m := by
    simp only [tm_left]
    rw [Nat.sub_mul]
    omega
  have h3 : tm_sum (tm_rm s (tm_sum s m) L) m + m ≤ m * tm_sum s m := by
    have h4 : tm_sum (fun j => tm_rm s (tm_sum s m) L j + 1) m ≤ tm_sum (fun _ => tm_sum s m) m :=
      tm_sum_le m (fun j _ => Nat.mod_lt _ hT)
    rw [tm_sum_add, tm_sum_const, tm_sum_const] at h4
    omega
  have h5 : tm_left s m L * tm_sum s m < m * tm_sum s m := by omega
  exact Nat.lt_of_mul_lt_mul_right h5
