/-! the class: the order of the nodes, the outer loop -/
theorem tm_ord_step {n : Nat} {par dep : Nat → Nat} {k q : Nat} {o ft : Nat → Nat} (h : tm_ordI n par dep k q o ft) (hk : k < q) : tm_ordI n par dep (k + 1) (q + tm_cc par (o k) n) (fun j => if j < q then o j else tm_kd par (o k) n (j - q)) (fun t => if t = k then q else ft t) := by
  obtain ⟨h1, h2, h3, h4, h5, h6, h7⟩ := h
  have hnew : ∀ i j, i < q → j < tm_cc par (o k) n → o i ≠ tm_kd par (o k) n j := by
    intro i j hi hj e
    obtain ⟨k1, k2, k3, k4⟩ := tm_kd_in n j hj
    by_cases hi0 : i = 0
    · rw [hi0, h3] at e
      exact k2 e.symm
    · obtain ⟨t, t1, t2, t3, t4⟩ := h7 i (by omega) hi
      rw [e, k3] at t3
      have := h5 k t hk (by omega) t3
      omega
  refine ⟨by omega, by omega, ?_, ?_, ?_, ?_, ?_⟩
  · simp only
    rw [if_pos (by omega)]
    exact h3
  · intro j hj
    simp only
    by_cases hq : j < q
    · rw [if_pos hq]
      exact h4 j hq
    · rw [if_neg hq]
      exact (tm_kd_in n _ (by omega)).1
  · intro i j hi hj e
    simp only at e
    by_cases hiq : i < q
    · rw [if_pos hiq] at e
      by_cases hjq : j < q
      · rw [if_pos hjq] at e
        exact h5 i j hiq hjq e
      · rw [if_neg hjq] at e
        exact absurd e (hnew i _ hiq (by omega))
    · rw [if_neg hiq] at e
      by_cases hjq : j < q
      · rw [if_pos hjq] at e
        exact absurd e.symm (hnew j _ hjq (by omega))
      · rw [if_neg hjq] at e
        have := tm_kd_inj (by omega) (by omega) e
        omega
  · intro t htk
    simp only
    by_cases e : t = k
    · subst e
      rw [if_pos rfl, if_pos hk]
      refine ⟨hk, Nat.le_refl _, fun j hj => ?_⟩
      rw [if_neg (by omega)]
      congr 1
      omega
    · obtain ⟨a1, a2, a3⟩ := h6 t (by omega)
      rw [if_neg e, if_pos (by omega)]
      refine ⟨a1, by omega, fun j hj => ?_⟩
      rw [if_pos (by omega)]
      exact a3 j hj
  · intro j hj1 hj2
    simp only
    by_cases hjq : j < q
    · obtain ⟨t, t1, t2, t3, t4⟩ := h7 j hj1 hjq
      rw [if_pos hjq]
      exact ⟨t, by omega, t2, by rw [if_pos (by omega)]; exact t3, t4⟩
    · rw [if_neg hjq]
      obtain ⟨k1, k2, k3, k4⟩ := tm_kd_in (par := par) (p := o k) n (j - q) (by omega)
      exact ⟨k, by omega, by omega, by rw [if_pos hk]; exact k3, k2⟩
theorem tmX1_order {N : Nat} (hN : 300 ≤ N) {d s : tm_M} {n : Nat} {par dep : Nat → Nat} (ht : tm_tree n par dep) (hn : s 0 2 = nI n) (hp : ∀ i, i ≠ 0 → i < n → s 2 i = nI (par i)) :
    ∃ d' o ft, fX1_orderNodes N d s = some d' ∧ (∀ c, c ≠ 2 → c ≠ 9 → c ≠ 10 → c ≠ 11 → d' c = d c) ∧ tm_ordI n par dep n n o ft ∧ ∀ j, j < n → d' 9 j = nI (o j) ∧ d' 2 (o j) = nI (dep (o j)) ∧ d' 10 (o j) = nI (ft j) ∧ d' 11 (o j) = nI (tm_cc par (o j) n) := by
  have hn1 := ht.1
  have hn24 := ht.2.1
  have hl : ∃ w, tm_whl (bX1_orderNodes_18 N s) N (nI 1, nI 0, tm_upc (tm_upc d 9 (upd (d 9) 0 0)) 2 (upd ((tm_upc d 9 (upd (d 9) 0 0)) 2) 0 0)) = some w ∧ ∃ o ft, (∀ c, c ≠ 2 → c ≠ 9 → c ≠ 10 → c ≠ 11 → w.2.2 c = d c) ∧ tm_ordI n par dep n n o ft ∧ ∀ j, j < n → w.2.2 9 j = nI (o j) ∧ w.2.2 2 (o j) = nI (dep (o j)) ∧ w.2.2 10 (o j) = nI (ft j) ∧ w.2.2 11 (o j) = nI (tm_cc par (o j) n) := by
    refine tm_fI (I := fun k st => ∃ q o ft, st.1 = nI q ∧ st.2.1 = nI k ∧ tm_ordI n par dep k q o ft ∧ (∀ c, c ≠ 2 → c ≠ 9 → c ≠ 10 → c ≠ 11 → st.2.2 c = d c) ∧ (∀ j, j < q → st.2.2 9 j = nI (o j) ∧ st.2.2 2 (o j) = nI (dep (o j))) ∧ (∀ t, t < k → st.2.2 10 (o t) = nI (ft t) ∧ st.2.2 11 (o t) = nI (tm_cc par (o t) n))) 0 n (by omega) ?_ ?_ (by omega) ⟨1, fun _ => 0, fun _ => 0, rfl, rfl, ⟨by omega, by omega, rfl, fun j _ => hn1, fun i j hi hj _ => by omega, fun t h => by omega, fun j h1 h2 => by omega⟩, ?_, ?_, fun t h => by omega⟩
    · rintro k ⟨u, v, Q⟩ _ hkn ⟨q, o, ft, hu, hv, hI, q1, q2, q3⟩
      simp only at hu hv q1 q2 q3
      subst hu hv
      have hkq := tm_ord_lt ht hI hkn
      have hS := tm_ord_step hI hkq
      have hqn := tm_ord_le hS
      obtain ⟨i1, i2, i3, i4, i5, i6, i7⟩ := hI
      have hx : o k < n := i4 k hkq
      obtain ⟨b1, b2⟩ := q2 k hkq
      obtain ⟨w, w1, w2, w3, w4, w5, w6⟩ := tmX1_ordI (D := tm_upc Q 10 (upd (Q 10) (o k) (nI q))) (q := q) (dx := dep (o k)) hN ht hn hp hx (by omega) (by rw [tm_ucN (by decide)]; exact b2)
      have hw10 : w.2.2 10 = upd (Q 10) (o k) (nI q) := by rw [w3 10 (by decide) (by decide), tm_ucE]
      have hw11 : w.2.2 11 = Q 11 := by rw [w3 11 (by decide) (by decide), tm_ucN (by decide)]
      simp only [bX1_orderNodes_18]
      rw [hn, if_neg (by rw [nI_leI (by omega) (by omega)]; omega), tm_gT (tm_inbN (show k < 24 by omega) (by decide)), nI_clamp (show k < 2 ^ 31 by omega), b1]
      simp only [tm_nm]
      rw [tm_gT (tm_inbN (show o k < 24 by omega) (by decide)), nI_clamp (show o k < 2 ^ 31 by omega), show (1 : Int32) = nI 1 from rfl, w1]
      simp only [Option.bind_some]
      rw [tm_gT (tm_inbN (show o k < 24 by omega) (by decide)), w2, hw10, pk_us, pk_sub (by omega), show nI k + nI 1 = nI (k + 1) from nI_1 k]
      refine ⟨_, rfl, _, _, _, rfl, rfl, hS, ?_, ?_, ?_⟩
      · intro c c2 c9 c10 c11
        simp only
        rw [tm_ucN c11, w3 c c2 c9, tm_ucN c10]
        exact q1 c c2 c9 c10 c11
      · intro j hj
        simp only
        rw [tm_ucN (by decide), tm_ucN (by decide)]
        by_cases hjq : j < q
        · rw [if_pos hjq, w5 j hjq, tm_ucN (by decide), w6 (o j) (fun t htc e => by
            obtain ⟨k1, k2, k3, k4⟩ := tm_kd_in n t htc
            by_cases hj0 : j = 0
            · rw [hj0, i3] at e
              exact k2 e
            · obtain ⟨t', t1, t2, t3, t4⟩ := i7 j (by omega) hjq
              rw [← e, k3] at t3
              have := i5 k t' hkq (by omega) t3
              omega), tm_ucN (by decide)]
          exact q2 j hjq
        · rw [if_neg hjq]
          have hc : j - q < tm_cc par (o k) n := by omega
          obtain ⟨b3, b4⟩ := w4 (j - q) hc
          rw [show q + (j - q) = j by omega] at b3
          obtain ⟨k1, k2, k3, k4⟩ := tm_kd_in n (j - q) hc
          refine ⟨b3, ?_⟩
          rw [b4, (ht.2.2.2 _ k2 k1).2, k3]
      · intro t htk
        simp only
        rw [tm_ucN (show 10 ≠ 11 by decide), hw10, tm_ucE, hw11, if_pos (show t < q by omega)]
        by_cases e : t = k
        · subst e
          rw [if_pos rfl, pk_us, pk_us]
          refine ⟨rfl, ?_⟩
          congr 1
          omega
        · have hne : o t ≠ o k := fun qq => e (i5 t k (by omega) hkq qq)
          rw [if_neg e, pk_un hne, pk_un hne]
          exact q3 t (by omega)
    · rintro ⟨u, v, Q⟩ ⟨q, o, ft, hu, hv, hI, q1, q2, q3⟩
      simp only at hu hv q1 q2 q3
      subst hu hv
      have hqn := tm_ord_le hI
      have hq : q = n := by have := hI.2.1; omega
      subst hq
      simp only [bX1_orderNodes_18]
      rw [hn, if_pos (nI_le (Nat.le_refl _) (by omega))]
      exact ⟨_, rfl, o, ft, q1, hI, fun j hj => ⟨(q2 j hj).1, (q2 j hj).2, (q3 j hj).1, (q3 j hj).2⟩⟩
    · intro c c2 c9 _ _
      simp only
      rw [tm_ucN c2, tm_ucN c9]
    · intro j hj
      have hj0 : j = 0 := by omega
      subst hj0
      simp only
      refine ⟨?_, ?_⟩
      · rw [tm_ucN (by decide), tm_ucE, pk_us]
        rfl
      · rw [tm_ucE, pk_us, ht.2.2.1]
        rfl
  obtain ⟨w, w1, o, ft, w2, w3, w4⟩ := hl
  refine ⟨w.2.2, o, ft, ?_, w2, w3, w4⟩
  simp only [fX1_orderNodes, tm_nm]
  rw [show (0 : Int32).toNatClampNeg = 0 from rfl, show (1 : Int32) = nI 1 from rfl, show (0 : Int32) = nI 0 from rfl]
  rw [show (nI 0 : Int32) = 0 from rfl] at *
  rw [w1]
  rfl
