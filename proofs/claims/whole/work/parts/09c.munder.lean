/-! the reference: the children of one node, laid -/
theorem tmX8_hide {N : Nat} (hN : 300 ≤ N) {e : tm_M} {g0 : Int64} {m : Nat} {kd : Nat → Nat} (hm24 : m ≤ 24) (h0 : e 0 13 = nI m) (hk : ∀ j, j < m → e 12 j = nI (kd j) ∧ kd j < 24) (hi : ∀ i j, i < m → j < m → kd i = kd j → i = j) :
    ∃ w, tm_whl (bX8_laysUnder_92 N g0) N ((0 : Int32), e) = some w ∧ (∀ c, c < 6 ∨ 11 ≤ c → w.2 c = e c) ∧ (∀ j, j < m → w.2 10 (kd j) = 1 ∧ tm_at4 (w.2 6) (w.2 7) (w.2 8) (w.2 9) (kd j) (0, 0, 0, 0)) ∧ (∀ i, (∀ j, j < m → kd j ≠ i) → ∀ c, w.2 c i = e c i) := by
  refine tm_fI (I := fun k st => st.1 = nI k ∧ (∀ c, c < 6 ∨ 11 ≤ c → st.2 c = e c) ∧ (∀ j, j < k → st.2 10 (kd j) = 1 ∧ tm_at4 (st.2 6) (st.2 7) (st.2 8) (st.2 9) (kd j) (0, 0, 0, 0)) ∧ (∀ i, (∀ j, j < k → kd j ≠ i) → ∀ c, st.2 c i = e c i)) 0 m (by omega) ?_ ?_ (by omega) ⟨rfl, fun c _ => rfl, fun j hj => by omega, fun i _ c => rfl⟩
  · rintro k ⟨u, Q⟩ _ hkm ⟨hu, q1, q2, q3⟩
    simp only at hu q1 q2 q3
    subst hu
    obtain ⟨k1, k2⟩ := hk k hkm
    obtain ⟨Z, z1, z2, z3, z4⟩ := tmX8_puts (N := N) (d := Q) (g0 := g0) k2 0 0 0 0
    simp only [bX8_laysUnder_92]
    rw [q1 0 (by omega), h0, if_neg (by rw [nI_leI (by omega) (by omega)]; omega), tm_gT (tm_inbN (by omega) (by decide)), nI_clamp (show k < 2 ^ 31 by omega), q1 12 (by omega), k1, z1]
    simp only [Option.bind_some]
    rw [z4 12 (by omega), q1 12 (by omega), k1, tm_gT (tm_inbN k2 (by decide)), nI_clamp (show kd k < 2 ^ 31 by omega), show vp_nar .boolean 1 = 1 from by decide]
    simp only [tm_nm, nI_1]
    refine ⟨_, rfl, rfl, ?_, ?_, ?_⟩
    · intro c hc
      simp only
      rw [tm_ucN (by omega), z4 c (by omega)]
      exact q1 c hc
    · intro j hj
      simp only
      by_cases ej : j = k
      · subst ej
        refine ⟨by rw [tm_ucE, pk_us], ?_⟩
        simp only [tm_at4]
        rw [tm_ucN (by decide), tm_ucN (by decide), tm_ucN (by decide), tm_ucN (by decide)]
        exact z2
      · have hn : kd j ≠ kd k := fun q => ej (hi j k (by omega) hkm q)
        obtain ⟨b1, b2⟩ := q2 j (by omega)
        refine ⟨by rw [tm_ucE, pk_un hn, z3 _ hn]; exact b1, ?_⟩
        simp only [tm_at4] at b2 ⊢
        rw [tm_ucN (by decide), tm_ucN (by decide), tm_ucN (by decide), tm_ucN (by decide), z3 _ hn, z3 _ hn, z3 _ hn, z3 _ hn]
        exact b2
    · intro i hi' c
      simp only
      have hn : i ≠ kd k := fun q => hi' k (by omega) q.symm
      by_cases hc : c = 10
      · subst hc
        rw [tm_ucE, pk_un hn, z3 _ hn]
        exact q3 i (fun j hj => hi' j (by omega)) 10
      · rw [tm_ucN hc, z3 _ hn]
        exact q3 i (fun j hj => hi' j (by omega)) c
  · rintro ⟨u, Q⟩ ⟨hu, q1, q2, q3⟩
    simp only at hu q1 q2 q3
    subst hu
    simp only [bX8_laysUnder_92]
    rw [q1 0 (by omega), h0, if_pos (nI_le (Nat.le_refl _) (by omega))]
    exact ⟨_, rfl, q1, q2, q3⟩
theorem tmX8_show {N : Nat} (hN : 300 ≤ N) {e : tm_M} {m : Nat} {kd : Nat → Nat} (hm24 : m ≤ 24) (h0 : e 0 13 = nI m) (hk : ∀ j, j < m → e 12 j = nI (kd j) ∧ kd j < 24) :
    ∃ w, tm_whl (bX8_laysUnder_139 N) N ((0 : Int32), e) = some w ∧ (∀ c, c ≠ 10 → w.2 c = e c) ∧ (∀ j, j < m → w.2 10 (kd j) = 0) ∧ (∀ i, (∀ j, j < m → kd j ≠ i) → w.2 10 i = e 10 i) := by
  refine tm_fI (I := fun k st => st.1 = nI k ∧ (∀ c, c ≠ 10 → st.2 c = e c) ∧ (∀ j, j < k → st.2 10 (kd j) = 0) ∧ (∀ i, (∀ j, j < k → kd j ≠ i) → st.2 10 i = e 10 i)) 0 m (by omega) ?_ ?_ (by omega) ⟨rfl, fun c _ => rfl, fun j hj => by omega, fun i _ => rfl⟩
  · rintro k ⟨u, Q⟩ _ hkm ⟨hu, q1, q2, q3⟩
    simp only at hu q1 q2 q3
    subst hu
    obtain ⟨k1, k2⟩ := hk k hkm
    simp only [bX8_laysUnder_139]
    rw [q1 0 (by omega), h0, if_neg (by rw [nI_leI (by omega) (by omega)]; omega), tm_gT (tm_inbN (by omega) (by decide)), nI_clamp (show k < 2 ^ 31 by omega), q1 12 (by omega), k1, tm_gT (tm_inbN k2 (by decide)), nI_clamp (show kd k < 2 ^ 31 by omega), show vp_nar .boolean 0 = 0 from by decide]
    simp only [tm_nm, nI_1]
    refine ⟨_, rfl, rfl, ?_, ?_, ?_⟩
    · intro c hc
      simp only
      rw [tm_ucN hc]
      exact q1 c hc
    · intro j hj
      simp only
      rw [tm_ucE]
      by_cases ej : kd j = kd k
      · rw [ej, pk_us]
      · rw [pk_un ej]
        exact q2 j (by
          have : j ≠ k := fun q => ej (by rw [q])
          omega)
    · intro i hi'
      simp only
      rw [tm_ucE, pk_un (fun q => hi' k (by omega) q.symm)]
      exact q3 i (fun j hj => hi' j (by omega))
  · rintro ⟨u, Q⟩ ⟨hu, q1, q2, q3⟩
    simp only at hu q1 q2 q3
    subst hu
    simp only [bX8_laysUnder_139]
    rw [q1 0 (by omega), h0, if_pos (nI_le (Nat.le_refl _) (by omega))]
    exact ⟨_, rfl, q1, q2, q3⟩
