/-! the class: the order of the nodes -/
theorem tmX1_ordI {N : Nat} (hN : 300 ≤ N) {D s : tm_M} {n x q dx : Nat} {par dep : Nat → Nat} (ht : tm_tree n par dep) (hn : s 0 2 = nI n) (hp : ∀ i, i ≠ 0 → i < n → s 2 i = nI (par i)) (hx : x < n) (hq : q + tm_cc par x n ≤ 24) (hd : D 2 x = nI dx) :
    ∃ o, tm_whl (bX1_orderNodes_45 N s (nI x)) N (nI q, nI 1, D) = some o ∧ o.1 = nI (q + tm_cc par x n) ∧ (∀ c, c ≠ 2 → c ≠ 9 → o.2.2 c = D c) ∧ (∀ j, j < tm_cc par x n → o.2.2 9 (q + j) = nI (tm_kd par x n j) ∧ o.2.2 2 (tm_kd par x n j) = nI (dx + 1)) ∧ (∀ t, t < q → o.2.2 9 t = D 9 t) ∧ (∀ i, (∀ j, j < tm_cc par x n → tm_kd par x n j ≠ i) → o.2.2 2 i = D 2 i) := by
  have hn1 := ht.1
  have hn24 := ht.2.1
  refine tm_fI (I := fun i st => st.1 = nI (q + tm_cc par x i) ∧ st.2.1 = nI i ∧ (∀ c, c ≠ 2 → c ≠ 9 → st.2.2 c = D c) ∧ (∀ j, j < tm_cc par x i → st.2.2 9 (q + j) = nI (tm_kd par x i j) ∧ st.2.2 2 (tm_kd par x i j) = nI (dx + 1)) ∧ (∀ t, t < q → st.2.2 9 t = D 9 t) ∧ (∀ i', (∀ j, j < tm_cc par x i → tm_kd par x i j ≠ i') → st.2.2 2 i' = D 2 i')) 1 n hn1 ?_ ?_ (by omega) ⟨?_, rfl, fun c _ _ => rfl, fun j hj => ?_, fun t _ => rfl, fun i' _ => rfl⟩
  · rintro i ⟨u, v, Q⟩ hi1 hin ⟨hu, hv, q1, q2, q3, q4⟩
    simp only at hu hv q1 q2 q3 q4
    subst hu hv
    obtain ⟨pl, pd⟩ := ht.2.2.2 i (by omega) hin
    have hcc := tm_cc_mono (par := par) (p := x) (i := i + 1) (n - (i + 1))
    rw [show i + 1 + (n - (i + 1)) = n by omega] at hcc
    have hkx : ∀ j, j < tm_cc par x i → tm_kd par x i j ≠ x := fun j hj e => by
      obtain ⟨k1, k2, k3, k4⟩ := tm_kd_in i j hj
      have := (ht.2.2.2 _ k2 (by omega)).2
      rw [k3, e] at this
      omega
    have q2x : Q 2 x = nI dx := by rw [q4 x hkx]; exact hd
    simp only [bX1_orderNodes_45]
    rw [hn, if_neg (by rw [nI_leI (by omega) (by omega)]; omega), tm_gT (tm_inbN (by omega) (by decide)), nI_clamp (show i < 2 ^ 31 by omega), hp i (by omega) hin]
    by_cases e : par i = x
    · have hc1 : tm_cc par x (i + 1) = tm_cc par x i + 1 := by
        simp only [tm_cc]
        rw [if_pos ⟨by omega, e⟩]
      have hk1 : ∀ j, tm_kd par x (i + 1) j = if j = tm_cc par x i then i else tm_kd par x i j := fun j => by
        simp only [tm_kd]
        by_cases ej : j = tm_cc par x i
        · rw [if_pos ⟨⟨by omega, e⟩, ej⟩, if_pos ej]
        · rw [if_neg (fun qq => ej qq.2), if_neg ej]
      rw [if_pos (by rw [e]), if_neg (by rw [show (24 : Int32) = nI 24 from rfl, nI_leI (by decide) (by omega)]; omega), tm_gT (tm_inbN (show x < 24 by omega) (by decide)), nI_clamp (show x < 2 ^ 31 by omega), q2x]
      simp only [tm_nm]
      rw [tm_gT (tm_inbN (show q + tm_cc par x i < 24 by omega) (by decide)), nI_clamp (show q + tm_cc par x i < 2 ^ 31 by omega)]
      simp only [nI_1]
      refine ⟨_, rfl, ?_, rfl, ?_, ?_, ?_, ?_⟩
      · simp only
        rw [hc1, Nat.add_assoc]
      · intro c h2 h9
        simp only
        rw [tm_ucN h9, tm_ucN h2]
        exact q1 c h2 h9
      · intro j hj
        rw [hc1] at hj
        simp only
        rw [hk1]
        by_cases ej : j = tm_cc par x i
        · rw [if_pos ej, ej]
          refine ⟨by rw [tm_ucE, pk_us], by rw [tm_ucN (by decide), tm_ucE, pk_us]⟩
        · rw [if_neg ej]
          obtain ⟨b1, b2⟩ := q2 j (by omega)
          have := (tm_kd_in (par := par) (p := x) i j (by omega)).1
          refine ⟨?_, ?_⟩
          · rw [tm_ucE, pk_un (by omega), tm_ucN (by decide)]
            exact b1
          · rw [tm_ucN (by decide), tm_ucE, pk_un (by omega)]
            exact b2
      · intro t h
        simp only
        rw [tm_ucE, pk_un (by omega), tm_ucN (by decide)]
        exact q3 t h
      · intro i' hi'
        simp only
        have hne : i' ≠ i := fun qq => by
          have := hi' (tm_cc par x i) (by rw [hc1]; omega)
          rw [hk1, if_pos rfl] at this
          exact this qq.symm
        rw [tm_ucN (by decide), tm_ucE, pk_un hne]
        refine q4 i' (fun j hj => ?_)
        have := hi' j (by rw [hc1]; omega)
        rwa [hk1, if_neg (by omega)] at this
    · have hc1 : tm_cc par x (i + 1) = tm_cc par x i := by
        simp only [tm_cc]
        rw [if_neg (fun qq => e qq.2)]
      have hk1 : ∀ j, tm_kd par x (i + 1) j = tm_kd par x i j := fun j => by
        simp only [tm_kd]
        rw [if_neg (fun qq => e qq.1.2)]
      rw [if_neg (by rw [nI_eq (by omega) (by omega)]; exact e)]
      simp only [tm_nm, nI_1]
      refine ⟨_, rfl, ?_, rfl, q1, ?_, q3, ?_⟩
      · simp only
        rw [hc1]
      · intro j hj
        rw [hc1] at hj
        rw [hk1]
        exact q2 j hj
      · intro i' hi'
        refine q4 i' (fun j hj => ?_)
        have := hi' j (by rw [hc1]; exact hj)
        rwa [hk1] at this
  · rintro ⟨u, v, Q⟩ ⟨hu, hv, q1, q2, q3, q4⟩
    simp only at hu hv q1 q2 q3 q4
    subst hu hv
    simp only [bX1_orderNodes_45]
    rw [hn, if_pos (nI_le (Nat.le_refl _) (by omega))]
    exact ⟨_, rfl, rfl, q1, q2, q3, q4⟩
  · rfl
  · exact absurd hj (by simp only [tm_cc]; rw [if_neg (by omega)]; omega)
/-- the order so far: q nodes o, the first k of them done, their children from ft on -/
def tm_ordI (n : Nat) (par dep : Nat → Nat) (k q : Nat) (o ft : Nat → Nat) : Prop :=
  1 ≤ q ∧ k ≤ q ∧ o 0 = 0 ∧ (∀ j, j < q → o j < n) ∧ (∀ i j, i < q → j < q → o i = o j → i = j) ∧ (∀ t, t < k → t < ft t ∧ ft t + tm_cc par (o t) n ≤ q ∧ ∀ j, j < tm_cc par (o t) n → o (ft t + j) = tm_kd par (o t) n j) ∧ (∀ j, 1 ≤ j → j < q → ∃ t, t < k ∧ t < j ∧ par (o j) = o t ∧ o j ≠ 0)
theorem tm_ord_le {n : Nat} {par dep : Nat → Nat} {k q : Nat} {o ft : Nat → Nat} (h : tm_ordI n par dep k q o ft) : q ≤ n := tm_pigeon n q o h.2.2.2.1 h.2.2.2.2.1
theorem tm_ord_all {n : Nat} {par dep : Nat → Nat} (ht : tm_tree n par dep) {q : Nat} {o ft : Nat → Nat} (h : tm_ordI n par dep q q o ft) : ∀ k i, i < n → dep i = k → ∃ j, j < q ∧ o j = i := by
  intro k
  induction k with
  | zero =>
    intro i hi hk
    have h0 : i = 0 := by
      by_cases h0 : i = 0
      · exact h0
      · have := (ht.2.2.2 i h0 hi).2
        omega
    exact ⟨0, h.1, by rw [h.2.2.1, h0]⟩
  | succ k ih =>
    intro i hi hk
    have h0 : i ≠ 0 := fun e => by
      rw [e, ht.2.2.1] at hk
      omega
    obtain ⟨hp, hd⟩ := ht.2.2.2 i h0 hi
    obtain ⟨t, ht1, ht2⟩ := ih (par i) hp (by omega)
    obtain ⟨a1, a2, a3⟩ := h.2.2.2.2.2.1 t ht1
    rw [ht2] at a2 a3
    obtain ⟨c1, c2⟩ := tm_kd_at (par := par) (p := par i) n i hi h0 rfl
    exact ⟨ft t + tm_cc par (par i) i, by omega, by rw [a3 _ c1, c2]⟩
theorem tm_ord_lt {n : Nat} {par dep : Nat → Nat} (ht : tm_tree n par dep) {k q : Nat} {o ft : Nat → Nat} (h : tm_ordI n par dep k q o ft) (hk : k < n) : k < q := by
  by_cases e : k = q
  · subst e
    have hall := fun i (hi : i < n) => tm_ord_all ht h (dep i) i hi rfl
    have key : ∀ i, ∃ j, i < n → j < k ∧ o j = i := fun i => by
      by_cases hi : i < n
      · obtain ⟨j, hj⟩ := hall i hi
        exact ⟨j, fun _ => hj⟩
      · exact ⟨0, fun q => absurd q hi⟩
    have := tm_pigeon k n (fun i => (key i).choose) (fun i hi => ((key i).choose_spec hi).1) (fun a b ha hb hab => by
      have e1 := ((key a).choose_spec ha).2
      have e2 := ((key b).choose_spec hb).2
      rw [← e1, ← e2, hab])
    omega
  · have := h.2.1
    omega
