/-! the class: the sizes, from the last node of the order to the first -/
theorem tmX1_sumI {N : Nat} (hN : 300 ≤ N) {D : tm_M} {f m : Nat} {kd S : Nat → Nat} (hfm : f + m ≤ 24) (hk : ∀ j, j < m → D 9 (f + j) = nI (kd j) ∧ kd j < 24 ∧ D 1 (kd j) = nI (S (kd j))) :
    ∃ o, tm_whl (bX1_sumSizes_44 N D (nI (f + m))) N (0, nI f) = some o ∧ o.1 = nI (tm_sum (fun j => S (kd j)) m) := by
  refine tm_fI (I := fun i st => st.1 = nI (tm_sum (fun j => S (kd j)) (i - f)) ∧ st.2 = nI i) f (f + m) (by omega) ?_ ?_ (by omega) ⟨by rw [Nat.sub_self]; rfl, rfl⟩
  · rintro i ⟨u, v⟩ hfi him ⟨hu, hv⟩
    simp only at hu hv
    subst hu hv
    obtain ⟨k1, k2, k3⟩ := hk (i - f) (by omega)
    rw [show f + (i - f) = i by omega] at k1
    simp only [bX1_sumSizes_44]
    rw [if_neg (by rw [nI_leI (by omega) (by omega)]; omega), tm_gT (tm_inbN (by omega) (by decide)), nI_clamp (show i < 2 ^ 31 by omega), k1, tm_gT (tm_inbN k2 (by decide)), nI_clamp (show kd (i - f) < 2 ^ 31 by omega), k3]
    simp only [tm_nm, nI_add, nI_1]
    refine ⟨_, rfl, ?_, rfl⟩
    simp only
    rw [show i + 1 - f = i - f + 1 by omega]
    rfl
  · rintro ⟨u, v⟩ ⟨hu, hv⟩
    simp only at hu hv
    subst hu hv
    simp only [bX1_sumSizes_44]
    rw [if_pos (nI_le (Nat.le_refl _) (by omega))]
    exact ⟨_, rfl, by rw [show f + m - f = m by omega]⟩
theorem tmX1_sizes {N : Nat} (hN : 300 ≤ N) {d s : tm_M} {n : Nat} {own par dep o ft : Nat → Nat} (ht : tm_tree n par dep) (hn : s 0 2 = nI n) (how : ∀ i, i < n → s 1 i = nI (own i)) (hI : tm_ordI n par dep n n o ft) (hd : ∀ j, j < n → d 9 j = nI (o j) ∧ d 10 (o j) = nI (ft j) ∧ d 11 (o j) = nI (tm_cc par (o j) n)) :
    ∃ d', fX1_sumSizes N d s = some d' ∧ (∀ c, c ≠ 1 → d' c = d c) ∧ ∀ i, i < n → d' 1 i = nI (tm_sz n own par dep i) := by
  have hn1 := ht.1
  have hn24 := ht.2.1
  obtain ⟨i1, i2, i3, i4, i5, i6, i7⟩ := hI
  have hl : ∃ w, tm_whl (bX1_sumSizes_7 N s) N (nI (n - 0) - 1, d) = some w ∧ ((∀ c, c ≠ 1 → w.2 c = d c) ∧ ∀ j, j < n → w.2 1 (o j) = nI (tm_sz n own par dep (o j))) := by
    refine tm_fI (I := fun i st => st.1 = nI (n - i) - 1 ∧ (∀ c, c ≠ 1 → st.2 c = d c) ∧ ∀ j, n - i ≤ j → j < n → st.2 1 (o j) = nI (tm_sz n own par dep (o j))) 0 n (by omega) ?_ ?_ (by omega) ⟨rfl, fun c _ => rfl, fun j h1 h2 => by omega⟩
    · rintro i ⟨u, Q⟩ _ hin ⟨hu, q1, q2⟩
      simp only at hu q1 q2
      obtain ⟨k, hk⟩ : ∃ k, n - i = k + 1 := ⟨n - i - 1, by omega⟩
      rw [hk, nI_pred] at hu
      subst hu
      have hx : o k < n := i4 k (by omega)
      obtain ⟨d1, d2, d3⟩ := hd k (by omega)
      obtain ⟨f1, f2, f3⟩ := i6 k (by omega)
      have hkid : ∀ j, j < tm_cc par (o k) n → Q 9 (ft k + j) = nI (tm_kd par (o k) n j) ∧ tm_kd par (o k) n j < 24 ∧ Q 1 (tm_kd par (o k) n j) = nI (tm_sz n own par dep (tm_kd par (o k) n j)) := by
        intro j hj
        have hlt := (tm_kd_in n j hj).1
        rw [q1 9 (by decide), (hd (ft k + j) (by omega)).1, ← f3 j hj]
        exact ⟨rfl, by have := i4 (ft k + j) (by omega); omega, q2 (ft k + j) (by omega) (by omega)⟩
      obtain ⟨w, w1, w2⟩ := tmX1_sumI hN (D := Q) (f := ft k) (m := tm_cc par (o k) n) (kd := tm_kd par (o k) n) (S := tm_sz n own par dep) (by omega) hkid
      have e10 : Q 10 (o k) = nI (ft k) := by rw [q1 10 (by decide)]; exact d2
      have e11 : Q 11 (o k) = nI (tm_cc par (o k) n) := by rw [q1 11 (by decide)]; exact d3
      have hcl := tm_cc_le (par := par) (p := o k) n
      have hres : bX1_sumSizes_7 N s (nI k, Q) = some (.inl (nI k - 1, tm_upc Q 1 (upd (Q 1) (o k) (nI (tm_sz n own par dep (o k)))))) := by
        simp only [bX1_sumSizes_7]
        rw [if_neg (nI_pos (by omega)), tm_gT (tm_inbN (show k < 24 by omega) (by decide)), nI_clamp (show k < 2 ^ 31 by omega), q1 9 (by decide), d1]
        simp only [tm_nm]
        rw [tm_gT (tm_inbN (show o k < 24 by omega) (by decide)), nI_clamp (show o k < 2 ^ 31 by omega), e10, e11, nI_add, w1]
        simp only [Option.bind_some]
        by_cases hm : tm_cc par (o k) n = 0
        · have hlf : fX1_isLeaf N Q (nI (o k)) = some 1 := by
            simp only [fX1_isLeaf]
            rw [tm_gT (tm_inbN (show o k < 24 by omega) (by decide)), nI_clamp (show o k < 2 ^ 31 by omega), e11, hm, if_pos nI_0]
          rw [hlf]
          simp only [Option.bind_some]
          rw [if_neg (by decide), tm_gT (tm_inbN (show o k < 24 by omega) (by decide)), how (o k) hx, tm_sz_leaf ht hx hm, Int32.sub_eq_add_neg]
        · have hlf : fX1_isLeaf N Q (nI (o k)) = some 0 := by
            simp only [fX1_isLeaf]
            rw [tm_gT (tm_inbN (show o k < 24 by omega) (by decide)), nI_clamp (show o k < 2 ^ 31 by omega), e11, if_neg (nI_ne0 (by omega) (by omega))]
          rw [hlf]
          simp only [Option.bind_some]
          rw [if_pos trivial, tm_gT (tm_inbN (show o k < 24 by omega) (by decide)), w2, tm_sz_kids ht hx hm, Int32.sub_eq_add_neg]
      refine ⟨_, hres, ?_, ?_, ?_⟩
      · simp only
        rw [show n - (i + 1) = k by omega]
      · intro c hc
        simp only
        rw [tm_ucN hc]
        exact q1 c hc
      · intro j h1 h2
        simp only
        rw [tm_ucE]
        by_cases e : j = k
        · subst e
          rw [pk_us]
        · rw [pk_un (fun qq => e (i5 j k h2 (by omega) qq))]
          exact q2 j (by omega) h2
    · rintro ⟨u, Q⟩ ⟨hu, q1, q2⟩
      simp only at hu q1 q2
      rw [Nat.sub_self] at hu q2
      subst hu
      simp only [bX1_sumSizes_7]
      rw [if_pos (by decide)]
      exact ⟨_, rfl, q1, fun j hj => q2 j (Nat.zero_le _) hj⟩
  obtain ⟨w, w1, w2, w3⟩ := hl
  refine ⟨w.2, ?_, w2, ?_⟩
  · simp only [fX1_sumSizes, tm_nm]
    rw [hn, show n = n - 0 from rfl, w1]
    rfl
  · intro i hi
    obtain ⟨j, hj, e⟩ := tm_ord_all ht (o := o) (ft := ft) ⟨i1, i2, i3, i4, i5, i6, i7⟩ (dep i) i hi rfl
    rw [← e]
    exact w3 j hj
