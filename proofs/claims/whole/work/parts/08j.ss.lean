/-! how children are divided into strips -/
def tm_cut (sz : Nat → Nat) (u : UInt32) (w : Nat) (a k : Nat) : Bool := decide ((tm_avg (fun t => sz (a + t)) (k - a) u w).toNat < (tm_avg (fun t => sz (a + t)) (k + 1 - a) u w).toNat)
/-- behind the places below k: the number of the strip that is open, and where each begins -/
def tm_ss (C : Nat → Nat → Bool) : Nat → Nat × (Nat → Nat)
  | 0 => (0, fun _ => 0)
  | k + 1 => if k = 0 then (0, fun _ => 0) else if C ((tm_ss C k).2 (tm_ss C k).1) k = true then ((tm_ss C k).1 + 1, fun i => if i = (tm_ss C k).1 + 1 then k else (tm_ss C k).2 i) else tm_ss C k
def tm_no (C : Nat → Nat → Bool) (k : Nat) : Nat := (tm_ss C k).1
def tm_sp (C : Nat → Nat → Bool) (k i : Nat) : Nat := (tm_ss C k).2 i
theorem tm_ss1 (C : Nat → Nat → Bool) : tm_no C 1 = 0 ∧ ∀ i, tm_sp C 1 i = 0 := ⟨rfl, fun _ => rfl⟩
theorem tm_ssT {C : Nat → Nat → Bool} {k : Nat} (hk : 1 ≤ k) (h : C (tm_sp C k (tm_no C k)) k = true) : tm_no C (k + 1) = tm_no C k + 1 ∧ ∀ i, tm_sp C (k + 1) i = if i = tm_no C k + 1 then k else tm_sp C k i := by
  have e : tm_ss C (k + 1) = ((tm_ss C k).1 + 1, fun i => if i = (tm_ss C k).1 + 1 then k else (tm_ss C k).2 i) := by
    have h' : C ((tm_ss C k).2 (tm_ss C k).1) k = true := h
    rw [tm_ss, if_neg (by omega), if_pos h']
  refine ⟨?_, fun i => ?_⟩
  · show (tm_ss C (k + 1)).1 = _
    rw [e]; rfl
  · show (tm_ss C (k + 1)).2 i = _
    rw [e]; rfl
theorem tm_ssF {C : Nat → Nat → Bool} {k : Nat} (hk : 1 ≤ k) (h : ¬ C (tm_sp C k (tm_no C k)) k = true) : tm_no C (k + 1) = tm_no C k ∧ ∀ i, tm_sp C (k + 1) i = tm_sp C k i := by
  have e : tm_ss C (k + 1) = tm_ss C k := by
    have h' : ¬ C ((tm_ss C k).2 (tm_ss C k).1) k = true := h
    rw [tm_ss, if_neg (by omega), if_neg h']
  refine ⟨?_, fun i => ?_⟩
  · show (tm_ss C (k + 1)).1 = _
    rw [e]; rfl
  · show (tm_ss C (k + 1)).2 i = _
    rw [e]; rfl
theorem tm_ss_inv (C : Nat → Nat → Bool) : ∀ k, 1 ≤ k → tm_no C k < k ∧ tm_sp C k (tm_no C k) < k ∧ tm_sp C k 0 = 0 ∧ ∀ i, i < tm_no C k → tm_sp C k i < tm_sp C k (i + 1) := by
  intro k
  induction k with
  | zero => intro h; omega
  | succ k ih =>
    intro _
    by_cases hk : k = 0
    · subst hk
      exact ⟨Nat.lt_add_one 0, Nat.lt_add_one 0, rfl, fun i hi => absurd hi (by show ¬ i < 0; omega)⟩
    · obtain ⟨h1, h2, h3, h4⟩ := ih (by omega)
      by_cases hc : C (tm_sp C k (tm_no C k)) k = true
      · obtain ⟨e1, e2⟩ := tm_ssT (by omega) hc
        refine ⟨by omega, ?_, ?_, ?_⟩
        · rw [e1, e2, if_pos rfl]; omega
        · rw [e2, if_neg (by omega)]; exact h3
        · intro i hi
          rw [e1] at hi
          rw [e2, e2]
          by_cases ei : i = tm_no C k
          · subst ei
            rw [if_neg (by omega), if_pos rfl]; exact h2
          · rw [if_neg (by omega), if_neg (by omega)]
            exact h4 i (by omega)
      · obtain ⟨e1, e2⟩ := tm_ssF (by omega) hc
        refine ⟨by omega, ?_, ?_, ?_⟩
        · rw [e1, e2]; omega
        · rw [e2]; exact h3
        · intro i hi
          rw [e1] at hi
          rw [e2, e2]
          exact h4 i hi
theorem tm_ss_st (C : Nat → Nat → Bool) {k : Nat} (hk : 1 ≤ k) : ∀ n, tm_no C k ≤ tm_no C (k + n) ∧ (∀ i, i ≤ tm_no C k → tm_sp C (k + n) i = tm_sp C k i) ∧ (∀ i, tm_no C k < i → i ≤ tm_no C (k + n) → k ≤ tm_sp C (k + n) i) := by
  intro n
  induction n with
  | zero => exact ⟨Nat.le_refl _, fun i _ => rfl, fun i h1 h2 => by rw [Nat.add_zero] at h2; omega⟩
  | succ n ih =>
    obtain ⟨h1, h2, h3⟩ := ih
    rw [← Nat.add_assoc]
    by_cases hc : C (tm_sp C (k + n) (tm_no C (k + n))) (k + n) = true
    · obtain ⟨e1, e2⟩ := tm_ssT (by omega) hc
      refine ⟨by omega, ?_, ?_⟩
      · intro i hi
        rw [e2, if_neg (by omega)]
        exact h2 i hi
      · intro i hi hi2
        rw [e1] at hi2
        rw [e2]
        by_cases ei : i = tm_no C (k + n) + 1
        · rw [if_pos ei]; omega
        · rw [if_neg ei]
          exact h3 i hi (by omega)
    · obtain ⟨e1, e2⟩ := tm_ssF (by omega) hc
      refine ⟨by omega, ?_, ?_⟩
      · intro i hi
        rw [e2]
        exact h2 i hi
      · intro i hi hi2
        rw [e1] at hi2
        rw [e2]
        exact h3 i hi hi2
/-- where strip i begins, of m children; behind the last one: m -/
def tm_st (C : Nat → Nat → Bool) (m i : Nat) : Nat := if i ≤ tm_no C m then tm_sp C m i else m
def tm_ns (C : Nat → Nat → Bool) (m : Nat) : Nat := tm_no C m + 1
theorem tm_st0 {C : Nat → Nat → Bool} {m : Nat} (hm : 1 ≤ m) : tm_st C m 0 = 0 := by
  unfold tm_st
  rw [if_pos (Nat.zero_le _)]
  exact (tm_ss_inv C m hm).2.2.1
theorem tm_stN (C : Nat → Nat → Bool) (m : Nat) : tm_st C m (tm_ns C m) = m := by
  unfold tm_st tm_ns
  rw [if_neg (by omega)]
theorem tm_st_lt {C : Nat → Nat → Bool} {m i : Nat} (hm : 1 ≤ m) (hi : i < tm_ns C m) : tm_st C m i < tm_st C m (i + 1) ∧ tm_st C m (i + 1) ≤ m := by
  obtain ⟨h1, h2, h3, h4⟩ := tm_ss_inv C m hm
  have mono : ∀ n i, i + n = tm_no C m → tm_sp C m i ≤ tm_sp C m (tm_no C m) := by
    intro n
    induction n with
    | zero => intro i e; rw [← e, Nat.add_zero]; exact Nat.le_refl _
    | succ n ih =>
      intro i e
      have a1 := h4 i (by omega)
      have a2 := ih (i + 1) (by omega)
      omega
  unfold tm_ns at hi
  unfold tm_st
  rw [if_pos (show i ≤ tm_no C m by omega)]
  by_cases hl : i + 1 ≤ tm_no C m
  · rw [if_pos hl]
    have a2 := mono (tm_no C m - (i + 1)) (i + 1) (by omega)
    exact ⟨h4 i (by omega), by omega⟩
  · rw [if_neg hl]
    have e : i = tm_no C m := by omega
    subst e
    exact ⟨h2, Nat.le_refl _⟩
/-- the strip of child j -/
def tm_si (C : Nat → Nat → Bool) (j : Nat) : Nat := tm_no C (j + 1)
theorem tm_si_in {C : Nat → Nat → Bool} {m j : Nat} (hj : j < m) : tm_si C j < tm_ns C m ∧ tm_st C m (tm_si C j) ≤ j ∧ j < tm_st C m (tm_si C j + 1) := by
  obtain ⟨n, hn⟩ : ∃ n, m = j + 1 + n := ⟨m - (j + 1), by omega⟩
  obtain ⟨h1, h2, h3⟩ := tm_ss_st C (k := j + 1) (by omega) n
  obtain ⟨g1, g2, g3, g4⟩ := tm_ss_inv C (j + 1) (by omega)
  rw [← hn] at h1 h2 h3
  unfold tm_si tm_ns tm_st
  refine ⟨by omega, ?_, ?_⟩
  · rw [if_pos h1, h2 _ (Nat.le_refl _)]
    omega
  · by_cases hl : tm_no C (j + 1) + 1 ≤ tm_no C m
    · rw [if_pos hl]
      exact h3 _ (by omega) hl
    · rw [if_neg hl]; exact hj
/-- the size of strip i -/
def tm_sS (sz : Nat → Nat) (C : Nat → Nat → Bool) (m i : Nat) : Nat := tm_sum (fun t => sz (tm_st C m i + t)) (tm_st C m (i + 1) - tm_st C m i)
theorem tm_sum_split (f : Nat → Nat) (a : Nat) : ∀ n, tm_sum f a + tm_sum (fun t => f (a + t)) n = tm_sum f (a + n) := by
  intro n
  induction n with
  | zero => rfl
  | succ n ih => rw [← Nat.add_assoc]; simp only [tm_sum]; omega
theorem tm_sS_sum {sz : Nat → Nat} {C : Nat → Nat → Bool} {m : Nat} (hm : 1 ≤ m) : ∀ i, i ≤ tm_ns C m → tm_sum (tm_sS sz C m) i = tm_sum sz (tm_st C m i) := by
  intro i
  induction i with
  | zero => intro _; rw [tm_st0 hm]; rfl
  | succ i ih =>
    intro hi
    have h1 := ih (by omega)
    have h2 := tm_st_lt (C := C) hm (show i < tm_ns C m by omega)
    have h3 := tm_sum_split sz (tm_st C m i) (tm_st C m (i + 1) - tm_st C m i)
    rw [show tm_st C m i + (tm_st C m (i + 1) - tm_st C m i) = tm_st C m (i + 1) by omega] at h3
    rw [show tm_sum (tm_sS sz C m) (i + 1) = tm_sum (tm_sS sz C m) i + tm_sS sz C m i from rfl, h1]
    exact h3
theorem tm_app_le {s : Nat → Nat} {m L j : Nat} (hj : j < m) (hT : 0 < tm_sum s m) : tm_app s m L j ≤ L := by
  have h1 := tm_fl_le s m L hT
  have h2 := tm_sum_ge (f := tm_fl s (tm_sum s m) L) m hj
  unfold tm_app
  by_cases hg : tm_gv (tm_rm s (tm_sum s m) L) m (tm_left s m L) j = true
  · rw [if_pos hg]
    have h3 : tm_left s m L ≠ 0 := by
      intro e
      rw [e] at hg
      exact absurd hg Bool.false_ne_true
    unfold tm_left at h3
    omega
  · rw [if_neg hg]; omega
/-- the rectangle of child j, in strips -/
def tm_strip (sz : Nat → Nat) (m x y w h : Nat) (j : Nat) : tm_R :=
  tm_row x (y + tm_sum (tm_app (tm_sS sz (tm_cut sz (tm_unit w h (tm_sum sz m)) w) m) (tm_ns (tm_cut sz (tm_unit w h (tm_sum sz m)) w) m) h) (tm_si (tm_cut sz (tm_unit w h (tm_sum sz m)) w) j)) w (tm_app (tm_sS sz (tm_cut sz (tm_unit w h (tm_sum sz m)) w) m) (tm_ns (tm_cut sz (tm_unit w h (tm_sum sz m)) w) m) h (tm_si (tm_cut sz (tm_unit w h (tm_sum sz m)) w) j)) true (fun t => sz (tm_st (tm_cut sz (tm_unit w h (tm_sum sz m)) w) m (tm_si (tm_cut sz (tm_unit w h (tm_sum sz m)) w) j) + t)) (tm_st (tm_cut sz (tm_unit w h (tm_sum sz m)) w) m (tm_si (tm_cut sz (tm_unit w h (tm_sum sz m)) w) j + 1) - tm_st (tm_cut sz (tm_unit w h (tm_sum sz m)) w) m (tm_si (tm_cut sz (tm_unit w h (tm_sum sz m)) w) j)) (j - tm_st (tm_cut sz (tm_unit w h (tm_sum sz m)) w) m (tm_si (tm_cut sz (tm_unit w h (tm_sum sz m)) w) j))
