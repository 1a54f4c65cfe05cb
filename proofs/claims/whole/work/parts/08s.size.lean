/-! sizes: the leaves under a node -/
def tm_un (par : Nat → Nat) : Nat → Nat → Nat → Bool
  | 0, l, i => decide (l = i)
  | f + 1, l, i => decide (l = i) || tm_un par f (par l) i
def tm_ud (par dep : Nat → Nat) (l i : Nat) : Bool := tm_un par (dep l) l i
theorem tm_ud_0 {n : Nat} {par dep : Nat → Nat} (ht : tm_tree n par dep) (i : Nat) : tm_ud par dep 0 i = decide (0 = i) := by
  unfold tm_ud
  rw [ht.2.2.1]
  rfl
theorem tm_ud_s {n : Nat} {par dep : Nat → Nat} (ht : tm_tree n par dep) {l : Nat} (h0 : l ≠ 0) (hl : l < n) (i : Nat) : tm_ud par dep l i = (decide (l = i) || tm_ud par dep (par l) i) := by
  unfold tm_ud
  rw [(ht.2.2.2 l h0 hl).2]
  rfl
theorem tm_ud_dep {n : Nat} {par dep : Nat → Nat} (ht : tm_tree n par dep) : ∀ k l i, l < n → dep l = k → tm_ud par dep l i = true → dep i ≤ k := by
  intro k
  induction k with
  | zero =>
    intro l i hl hk h
    by_cases h0 : l = 0
    · subst h0
      rw [tm_ud_0 ht, decide_eq_true_eq] at h
      subst h
      omega
    · have := (ht.2.2.2 l h0 hl).2
      omega
  | succ k ih =>
    intro l i hl hk h
    have h0 : l ≠ 0 := fun e => by
      rw [e, ht.2.2.1] at hk
      omega
    rw [tm_ud_s ht h0 hl, Bool.or_eq_true, decide_eq_true_eq] at h
    rcases h with h | h
    · subst h
      omega
    · have := ih (par l) i (ht.2.2.2 l h0 hl).1 (by have := (ht.2.2.2 l h0 hl).2; omega) h
      omega
theorem tm_sum_0 {f : Nat → Nat} : ∀ m, (∀ j, j < m → f j = 0) → tm_sum f m = 0 := by
  intro m
  induction m with
  | zero => intro _; rfl
  | succ m ih =>
    intro h
    simp only [tm_sum]
    rw [ih (fun j hj => h j (by omega)), h m (by omega)]
theorem tm_sum_1 {f : Nat → Nat} {a v : Nat} : ∀ m, a < m → f a = v → (∀ j, j < m → j ≠ a → f j = 0) → tm_sum f m = v := by
  intro m
  induction m with
  | zero => intro h; omega
  | succ m ih =>
    intro ha hv h
    simp only [tm_sum]
    by_cases e : a = m
    · subst e
      rw [tm_sum_0 a (fun j hj => h j (by omega) (by omega)), hv]
      omega
    · rw [ih (by omega) hv (fun j hj hne => h j (by omega) hne), h m (by omega) (by omega)]
      omega
theorem tm_sum_e {f g : Nat → Nat} : ∀ m, (∀ j, j < m → f j = g j) → tm_sum f m = tm_sum g m := by
  intro m
  induction m with
  | zero => intro _; rfl
  | succ m ih =>
    intro h
    simp only [tm_sum]
    rw [ih (fun j hj => h j (by omega)), h m (by omega)]
theorem tm_sum_p (f g : Nat → Nat) : ∀ m, tm_sum (fun j => f j + g j) m = tm_sum f m + tm_sum g m := by
  intro m
  induction m with
  | zero => rfl
  | succ m ih =>
    simp only [tm_sum]
    omega
theorem tm_sum_x (F : Nat → Nat → Nat) (n : Nat) : ∀ m, tm_sum (fun j => tm_sum (fun l => F j l) n) m = tm_sum (fun l => tm_sum (fun j => F j l) m) n := by
  intro m
  induction m with
  | zero =>
    simp only [tm_sum]
    exact (tm_sum_0 n (fun _ _ => rfl)).symm
  | succ m ih =>
    simp only [tm_sum]
    rw [ih, tm_sum_p]
theorem tm_sum_if (c : Nat) (f : Nat → Bool) : ∀ m, tm_sum (fun j => if f j = true then c else 0) m = c * tm_sum (fun j => if f j = true then 1 else 0) m := by
  intro m
  induction m with
  | zero => rfl
  | succ m ih =>
    simp only [tm_sum]
    rw [ih, Nat.mul_add]
    split <;> omega
/-- under how many children of i the node l lies -/
theorem tm_ud_kids {n : Nat} {par dep : Nat → Nat} (ht : tm_tree n par dep) {i : Nat} (hi : i < n) : ∀ k l, l < n → dep l = k → tm_sum (fun j => if tm_ud par dep l (tm_kd par i n j) = true then 1 else 0) (tm_cc par i n) = if l ≠ i ∧ tm_ud par dep l i = true then 1 else 0 := by
  intro k
  induction k with
  | zero =>
    intro l hl hk
    have h0 : l = 0 := by
      by_cases h0 : l = 0
      · exact h0
      · have := (ht.2.2.2 l h0 hl).2
        omega
    subst h0
    rw [tm_sum_0, if_neg]
    · rw [tm_ud_0 ht, decide_eq_true_eq]
      exact fun q => q.1 q.2
    · intro j hj
      rw [if_neg]
      rw [tm_ud_0 ht, decide_eq_true_eq]
      exact fun q => (tm_kd_in n j hj).2.1 q.symm
  | succ k ih =>
    intro l hl hk
    have h0 : l ≠ 0 := fun e => by
      rw [e, ht.2.2.1] at hk
      omega
    obtain ⟨hp, hd⟩ := ht.2.2.2 l h0 hl
    have IH := ih (par l) hp (by omega)
    by_cases hpi : par l = i
    · have hz : ∀ j, j < tm_cc par i n → ¬ tm_ud par dep (par l) (tm_kd par i n j) = true := by
        intro j hj q
        have a1 := tm_ud_dep ht (dep (par l)) _ _ hp rfl q
        obtain ⟨k1, k2, k3, k4⟩ := tm_kd_in n j hj
        have a2 := (ht.2.2.2 _ k2 k1).2
        rw [k3] at a2
        rw [hpi] at a1
        omega
      obtain ⟨c1, c2⟩ := tm_kd_at n l hl h0 hpi
      rw [if_pos]
      · refine tm_sum_1 (a := tm_cc par i l) _ c1 ?_ ?_
        · rw [if_pos]
          rw [tm_ud_s ht h0 hl, c2, decide_eq_true rfl]
          rfl
        · intro j hj hne
          rw [if_neg]
          rw [tm_ud_s ht h0 hl, Bool.or_eq_true, decide_eq_true_eq]
          rintro (q | q)
          · have := (tm_kd_in n j hj).2.2.2
            rw [← q] at this
            exact hne this.symm
          · exact hz j hj q
      · refine ⟨fun e => ?_, ?_⟩
        · rw [e] at hd hpi
          rw [hpi] at hd
          omega
        · rw [tm_ud_s ht h0 hl, hpi, Bool.or_eq_true]
          right
          by_cases hi0 : i = 0
          · rw [hi0, tm_ud_0 ht]
            rfl
          · rw [tm_ud_s ht hi0 hi, decide_eq_true rfl]
            rfl
    · have e1 : ∀ j, j < tm_cc par i n → (if tm_ud par dep l (tm_kd par i n j) = true then 1 else 0) = (if tm_ud par dep (par l) (tm_kd par i n j) = true then 1 else 0) := by
        intro j hj
        rw [tm_ud_s ht h0 hl, decide_eq_false (fun q => hpi (by rw [q]; exact (tm_kd_in n j hj).2.2.1)), Bool.false_or]
      rw [tm_sum_e _ e1, IH]
      by_cases hli : l = i
      · rw [if_neg, if_neg]
        · exact fun q => q.1 hli
        · intro q
          have a1 := tm_ud_dep ht (dep (par l)) _ _ hp rfl q.2
          rw [← hli] at a1
          omega
      · rw [tm_ud_s ht h0 hl, decide_eq_false hli, Bool.false_or]
        by_cases hu : tm_ud par dep (par l) i = true
        · rw [if_pos ⟨hpi, hu⟩, if_pos ⟨hli, hu⟩]
        · rw [if_neg (fun q => hu q.2), if_neg (fun q => hu q.2)]
def tm_lf (n : Nat) (own par : Nat → Nat) (l : Nat) : Nat := if tm_cc par l n = 0 then own l else 0
def tm_sz (n : Nat) (own par dep : Nat → Nat) (i : Nat) : Nat := tm_sum (fun l => if tm_ud par dep l i = true then tm_lf n own par l else 0) n
theorem tm_ud_r {n : Nat} {par dep : Nat → Nat} (ht : tm_tree n par dep) {i : Nat} (hi : i < n) : tm_ud par dep i i = true := by
  by_cases hi0 : i = 0
  · rw [hi0, tm_ud_0 ht]
    rfl
  · rw [tm_ud_s ht hi0 hi, decide_eq_true rfl]
    rfl
theorem tm_sz_leaf {n : Nat} {own par dep : Nat → Nat} (ht : tm_tree n par dep) {i : Nat} (hi : i < n) (hm : tm_cc par i n = 0) : tm_sz n own par dep i = own i := by
  unfold tm_sz
  refine tm_sum_1 (a := i) _ hi ?_ ?_
  · rw [if_pos (tm_ud_r ht hi)]
    unfold tm_lf
    rw [if_pos hm]
  · intro l hl hne
    rw [if_neg]
    intro q
    have := tm_ud_kids ht hi (dep l) l hl rfl
    rw [hm, if_pos ⟨hne, q⟩] at this
    simp only [tm_sum] at this
    omega
theorem tm_sz_kids {n : Nat} {own par dep : Nat → Nat} (ht : tm_tree n par dep) {i : Nat} (hi : i < n) (hm : tm_cc par i n ≠ 0) : tm_sum (fun j => tm_sz n own par dep (tm_kd par i n j)) (tm_cc par i n) = tm_sz n own par dep i := by
  unfold tm_sz
  rw [tm_sum_x]
  refine tm_sum_e _ ?_
  intro l hl
  rw [tm_sum_if, tm_ud_kids ht hi (dep l) l hl rfl]
  by_cases e : l = i
  · subst e
    unfold tm_lf
    rw [if_neg hm, Nat.zero_mul]
    split <;> rfl
  · by_cases hu : tm_ud par dep l i = true
    · rw [if_pos ⟨e, hu⟩, if_pos hu, Nat.mul_one]
    · rw [if_neg (fun q => hu q.2), if_neg hu, Nat.mul_zero]
theorem tm_sz_pos {n : Nat} {own par dep : Nat → Nat} (ht : tm_tree n par dep) (ho : ∀ i, i < n → 1 ≤ own i) : ∀ k i, i < n → n - dep i ≤ k → 1 ≤ tm_sz n own par dep i := by
  intro k
  induction k with
  | zero =>
    intro i hi hk
    have := tm_dep_lt ht hi
    omega
  | succ k ih =>
    intro i hi hk
    by_cases hm : tm_cc par i n = 0
    · rw [tm_sz_leaf ht hi hm]
      exact ho i hi
    · rw [← tm_sz_kids ht hi hm]
      obtain ⟨k1, k2, k3, k4⟩ := tm_kd_in (par := par) (p := i) n 0 (by omega)
      have a2 := (ht.2.2.2 _ k2 k1).2
      rw [k3] at a2
      have a3 := ih (tm_kd par i n 0) k1 (by omega)
      have a4 := tm_sum_ge (f := fun j => tm_sz n own par dep (tm_kd par i n j)) (j := 0) (tm_cc par i n) (by omega)
      omega
theorem tm_sum_leC {f : Nat → Nat} {c : Nat} : ∀ m, (∀ j, j < m → f j ≤ c) → tm_sum f m ≤ c * m := by
  intro m
  induction m with
  | zero => intro _; exact Nat.le_refl _
  | succ m ih =>
    intro h
    simp only [tm_sum]
    have := ih (fun j hj => h j (by omega))
    have := h m (by omega)
    rw [Nat.mul_add]
    omega
theorem tm_sz_le {n : Nat} {own par dep : Nat → Nat} (ht : tm_tree n par dep) (ho : ∀ i, i < n → own i ≤ 99) (i : Nat) : tm_sz n own par dep i ≤ 2376 := by
  have := tm_sum_leC (f := fun l => if tm_ud par dep l i = true then tm_lf n own par l else 0) (c := 99) n (fun l hl => by
    simp only [tm_lf]
    have := ho l hl
    split
    · split <;> omega
    · omega)
  have := ht.2.1
  unfold tm_sz
  omega
theorem tm_ok_kids {n : Nat} {own par dep : Nat → Nat} (ht : tm_tree n par dep) (ho : ∀ i, i < n → 1 ≤ own i ∧ own i ≤ 99) {i : Nat} (hi : i < n) (hm : tm_cc par i n ≠ 0) : tm_ok (tm_cc par i n) (tm_kd par i n) (fun j => tm_sz n own par dep (tm_kd par i n j)) := by
  have hn := ht.2.1
  have hc := tm_cc_le (par := par) (p := i) n
  refine ⟨by omega, by omega, fun j hj => ⟨?_, ?_⟩, fun a b ha hb h => tm_kd_inj ha hb h, ?_⟩
  · have := (tm_kd_in n j hj).1
    omega
  · exact tm_sz_pos ht (fun i hi => (ho i hi).1) _ _ (tm_kd_in n j hj).1 (Nat.le_refl _)
  · rw [tm_sz_kids ht hi hm]
    have := tm_sz_le ht (fun i hi => (ho i hi).2) i
    omega
