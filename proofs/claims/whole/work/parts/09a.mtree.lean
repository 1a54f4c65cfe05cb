/-! the reference: children, depths, sizes -/
def tm_stM (e : tm_M) (n : Nat) (own par : Nat → Nat) (W H pad md : Nat) : Prop := e 1 0 = nI n ∧ e 1 1 = nI W ∧ e 1 2 = nI H ∧ e 1 3 = nI pad ∧ e 1 4 = nI md ∧ (∀ i, i < n → e 1 (5 + i) = nI (own i)) ∧ (∀ i, i ≠ 0 → i < n → e 1 (29 + i) = nI (par i)) ∧ e 1 29 = -1
theorem tm_29 (i : Nat) : (29 : Int32) + nI i = nI (29 + i) := nI_add 29 i
theorem tm_5 (i : Nat) : (5 : Int32) + nI i = nI (5 + i) := nI_add 5 i
theorem tm_m1n {p : Nat} (hp : p < 2 ^ 31) : ¬ (-1 : Int32) = nI p := fun h => by
  have := congrArg Int32.toInt h
  rw [nI_toInt hp, show (-1 : Int32).toInt = -1 from by decide] at this
  omega
theorem tm_n1m {p : Nat} (hp : p < 2 ^ 31) : ¬ nI p = (-1 : Int32) := fun h => tm_m1n hp h.symm
/-- is i a child of p? as the reference sees it -/
theorem tm_parM {e : tm_M} {n : Nat} {par dep : Nat → Nat} (ht : tm_tree n par dep) (h7 : ∀ i, i ≠ 0 → i < n → e 1 (29 + i) = nI (par i)) (h8 : e 1 29 = -1) {i p : Nat} (hi : i < n) (hp : p < 2 ^ 31) : e 1 (29 + i) = nI p ↔ (i ≠ 0 ∧ par i = p) := by
  by_cases h0 : i = 0
  · subst h0
    rw [Nat.add_zero, h8]
    exact ⟨fun q => absurd q (tm_m1n hp), fun q => absurd rfl q.1⟩
  · have := (ht.2.2.2 i h0 hi).1
    have := ht.2.1
    rw [h7 i h0 hi, nI_eq (by omega) hp]
    exact ⟨fun q => ⟨h0, q⟩, fun q => q.2⟩
theorem tmX8_cm {N : Nat} (hN : 300 ≤ N) {e : tm_M} {g0 : Int64} {n p : Nat} {par dep : Nat → Nat} (ht : tm_tree n par dep) (h1 : e 1 0 = nI n) (h7 : ∀ i, i ≠ 0 → i < n → e 1 (29 + i) = nI (par i)) (h8 : e 1 29 = -1) (hp : p < 2 ^ 31) : fX8_childMany N e g0 (nI p) = some (nI (tm_cc par p n)) := by
  have hn24 := ht.2.1
  have hl : tm_whl (bX8_childMany_4 N e (nI p)) N (nI (tm_cc par p 0), nI 0) = some (nI (tm_cc par p n), nI n) := by
    refine tm_forE (fun i => (nI (tm_cc par p i), nI i)) 0 n (by omega) ?_ ?_ (by omega)
    · intro i _ hi
      simp only [bX8_childMany_4]
      rw [show (0 : Int32).toNatClampNeg = 0 from rfl, h1, if_neg (by rw [nI_leI (by omega) (by omega)]; omega), tm_29, tm_gT (tm_inbN (by omega) (by decide)), nI_clamp (by omega)]
      have hpm := tm_parM ht h7 h8 hi hp
      by_cases hc : i ≠ 0 ∧ par i = p
      · rw [if_pos (hpm.mpr hc)]
        simp only [tm_nm, nI_1, tm_cc]
        rw [if_pos hc]
      · rw [if_neg (fun q => hc (hpm.mp q))]
        simp only [tm_nm, nI_1, tm_cc]
        rw [if_neg hc, show nI (tm_cc par p i) + 0 = nI (tm_cc par p i) from by rw [← nI_0, nI_add, Nat.add_zero]]
    · simp only [bX8_childMany_4]
      rw [show (0 : Int32).toNatClampNeg = 0 from rfl, h1, if_pos (nI_le (Nat.le_refl _) (by omega))]
  simp only [fX8_childMany]
  rw [show ((0 : Int32), (0 : Int32)) = (nI (tm_cc par p 0), nI 0) from rfl, hl]
  rfl
theorem tmX8_ud {N : Nat} (hN : 300 ≤ N) {e : tm_M} {g0 : Int64} {n l i : Nat} {par dep : Nat → Nat} (ht : tm_tree n par dep) (h7 : ∀ i, i ≠ 0 → i < n → e 1 (29 + i) = nI (par i)) (h8 : e 1 29 = -1) (hl : l < n) (hi : i < 2 ^ 31) : fX8_isUnder N e g0 (nI l) (nI i) = some (if tm_ud par dep l i = true then 1 else 0) := by
  have hn24 := ht.2.1
  have loop : ∀ k l F, l < n → dep l = k → k + 1 < F → ∃ o, tm_whl (bX8_isUnder_2 N e (nI i)) F (nI l) = some o ∧ (if o = nI i then (some (1 : Int32)) else (some (0 : Int32))) = some (if tm_ud par dep l i = true then 1 else 0) := by
    intro k
    induction k with
    | zero =>
      intro l F hl hk hF
      have h0 : l = 0 := by
        by_cases h0 : l = 0
        · exact h0
        · have := (ht.2.2.2 l h0 hl).2
          omega
      subst h0
      obtain ⟨F, rfl⟩ : ∃ F', F = F' + 2 := ⟨F - 2, by omega⟩
      rw [tm_ud_0 ht]
      by_cases e0 : 0 = i
      · subst e0
        refine ⟨nI 0, ?_, ?_⟩
        · simp only [tm_whl, bX8_isUnder_2]
          rw [if_pos trivial]
          rfl
        · rw [if_pos rfl]
          rfl
      · refine ⟨-1, ?_, ?_⟩
        · have b1 : bX8_isUnder_2 N e (nI i) (nI 0) = some (.inl (-1)) := by
            simp only [bX8_isUnder_2]
            rw [if_neg (by rw [nI_eq (by decide) hi]; exact e0), if_neg (tm_n1m (by decide)), tm_29, tm_gT (tm_inbN (by decide) (by decide)), nI_clamp (by decide)]
            simp only [tm_nm]
            rw [Nat.add_zero, h8]
          have b2 : bX8_isUnder_2 N e (nI i) (-1) = some (.inr (-1)) := by
            simp only [bX8_isUnder_2]
            rw [if_neg (tm_m1n hi), if_pos trivial]
          simp only [tm_whl, b1, Option.bind_some, b2]
        · rw [if_neg (tm_m1n hi), decide_eq_false e0]
          rfl
    | succ k ih =>
      intro l F hl hk hF
      have h0 : l ≠ 0 := fun q => by
        rw [q, ht.2.2.1] at hk
        omega
      obtain ⟨hp, hd⟩ := ht.2.2.2 l h0 hl
      obtain ⟨F, rfl⟩ : ∃ F', F = F' + 1 := ⟨F - 1, by omega⟩
      rw [tm_ud_s ht h0 hl]
      by_cases el : l = i
      · subst el
        refine ⟨nI l, ?_, ?_⟩
        · simp only [tm_whl, bX8_isUnder_2]
          rw [if_pos trivial]
          rfl
        · rw [if_pos rfl, decide_eq_true rfl]
          rfl
      · have b1 : bX8_isUnder_2 N e (nI i) (nI l) = some (.inl (nI (par l))) := by
          simp only [bX8_isUnder_2]
          rw [if_neg (by rw [nI_eq (by omega) hi]; exact el), if_neg (tm_n1m (by omega)), tm_29, tm_gT (tm_inbN (by omega) (by decide)), nI_clamp (by omega)]
          simp only [tm_nm]
          rw [h7 l h0 hl]
        simp only [tm_whl, b1, Option.bind_some]
        rw [decide_eq_false el, Bool.false_or]
        exact ih (par l) F hp (by omega) (by omega)
  obtain ⟨o, o1, o2⟩ := loop (dep l) l N hl rfl (by have := tm_dep_lt ht hl; omega)
  simp only [fX8_isUnder]
  rw [o1]
  exact o2
theorem tmX8_dp {N : Nat} (hN : 300 ≤ N) {e : tm_M} {g0 : Int64} {n l : Nat} {par dep : Nat → Nat} (ht : tm_tree n par dep) (h7 : ∀ i, i ≠ 0 → i < n → e 1 (29 + i) = nI (par i)) (hl : l < n) : fX8_depthOf N e g0 (nI l) = some (nI (dep l)) := by
  have hn24 := ht.2.1
  have loop : ∀ k l a F, l < n → dep l = k → k < F → ∃ o, tm_whl (bX8_depthOf_4 N e) F (nI a, nI l) = some o ∧ o.1 = nI (a + k) := by
    intro k
    induction k with
    | zero =>
      intro l a F hl hk hF
      have h0 : l = 0 := by
        by_cases h0 : l = 0
        · exact h0
        · have := (ht.2.2.2 l h0 hl).2
          omega
      subst h0
      obtain ⟨F, rfl⟩ : ∃ F', F = F' + 1 := ⟨F - 1, by omega⟩
      refine ⟨(nI a, nI 0), ?_, rfl⟩
      simp only [tm_whl, bX8_depthOf_4]
      rw [if_pos nI_0]
      rfl
    | succ k ih =>
      intro l a F hl hk hF
      have h0 : l ≠ 0 := fun q => by
        rw [q, ht.2.2.1] at hk
        omega
      obtain ⟨hp, hd⟩ := ht.2.2.2 l h0 hl
      obtain ⟨F, rfl⟩ : ∃ F', F = F' + 1 := ⟨F - 1, by omega⟩
      have b1 : bX8_depthOf_4 N e (nI a, nI l) = some (.inl (nI (a + 1), nI (par l))) := by
        simp only [bX8_depthOf_4]
        simp only [tm_nm]
        rw [if_neg (nI_ne0 (by omega) (by omega)), tm_29, tm_gT (tm_inbN (by omega) (by decide)), nI_clamp (by omega), nI_1, h7 l h0 hl]
      simp only [tm_whl, b1, Option.bind_some]
      obtain ⟨o, o1, o2⟩ := ih (par l) (a + 1) F hp (by omega) (by omega)
      exact ⟨o, o1, by rw [o2]; congr 1; omega⟩
  obtain ⟨o, o1, o2⟩ := loop (dep l) l 0 N hl rfl (by have := tm_dep_lt ht hl; omega)
  simp only [fX8_depthOf]
  rw [show ((0 : Int32), nI l) = (nI 0, nI l) from rfl, o1]
  simp only [Option.bind_some]
  rw [o2, Nat.zero_add]
