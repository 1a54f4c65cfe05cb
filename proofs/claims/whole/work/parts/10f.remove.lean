/-! a leaf is removed -/
variable {n W H pad md : Nat} {own par dep : Nat → Nat} {r : Nat → tm_R} {hb : Nat → Bool} {d e d' e' : tm_M}
def tm_ph (i j : Nat) : Nat := if j < i then j else j + 1
def tm_ps (i p : Nat) : Nat := if i < p then p - 1 else p
theorem tm_ph_l {i j : Nat} (h : j < i) : tm_ph i j = j := if_pos h
theorem tm_ph_g {i j : Nat} (h : ¬ j < i) : tm_ph i j = j + 1 := if_neg h
theorem tm_ps_g {i p : Nat} (h : i < p) : tm_ps i p = p - 1 := if_pos h
theorem tm_ps_l {i p : Nat} (h : ¬ i < p) : tm_ps i p = p := if_neg h
theorem tm_ph_ps {i p : Nat} (h : p ≠ i) : tm_ph i (tm_ps i p) = p := by
  by_cases c : i < p
  · rw [tm_ps_g c, tm_ph_g (by omega)]
    omega
  · rw [tm_ps_l c, tm_ph_l (by omega)]
theorem tm_ph_in {i j : Nat} (hj : j < n - 1) : tm_ph i j < n := by
  by_cases c : j < i
  · rw [tm_ph_l c]; omega
  · rw [tm_ph_g c]; omega
theorem tm_ph_0 {i j : Nat} (hj : j ≠ 0) : tm_ph i j ≠ 0 := by
  by_cases c : j < i
  · rw [tm_ph_l c]; omega
  · rw [tm_ph_g c]; omega
theorem tm_par_ne {i j : Nat} (hc : tm_cc par i n = 0) (hj0 : j ≠ 0) (hj : j < n) : par j ≠ i := fun q => by
  have := (tm_kd_at n j hj hj0 q).1
  omega
theorem tm_tree_rm (ht : tm_tree n par dep) {i : Nat} (hi0 : i ≠ 0) (hi : i < n) (hc : tm_cc par i n = 0) : tm_tree (n - 1) (fun j => tm_ps i (par (tm_ph i j))) (fun j => dep (tm_ph i j)) := by
  obtain ⟨h1, h2, h3, h4⟩ := ht
  refine ⟨by omega, by omega, ?_, fun j hj0 hj => ?_⟩
  · show dep (tm_ph i 0) = 0
    rw [tm_ph_l (by omega)]
    exact h3
  · obtain ⟨a, b⟩ := h4 (tm_ph i j) (tm_ph_0 hj0) (tm_ph_in hj)
    have hne := tm_par_ne hc (tm_ph_0 (i := i) hj0) (tm_ph_in (i := i) hj)
    show tm_ps i (par (tm_ph i j)) < n - 1 ∧ dep (tm_ph i j) = dep (tm_ph i (tm_ps i (par (tm_ph i j)))) + 1
    rw [tm_ph_ps hne]
    refine ⟨?_, b⟩
    by_cases c : i < par (tm_ph i j)
    · rw [tm_ps_g c]; omega
    · rw [tm_ps_l c]; omega
theorem tmX5_take {N : Nat} (hN : 300 ≤ N) {s : tm_M} (ht : tm_tree n par dep) (h1 : s 0 2 = nI n) (h6 : ∀ i, i < n → s 1 i = nI (own i)) (h7 : ∀ i, i ≠ 0 → i < n → s 2 i = nI (par i)) (h8 : s 2 0 = -1) {i : Nat} (hi0 : i ≠ 0) (hi : i < n) : ∃ q, fX5_takeOut N s (nI i) = some q ∧ q 0 2 = nI (n - 1) ∧ (∀ k, k ≠ 2 → q 0 k = s 0 k) ∧ (∀ m, m < n - 1 → q 1 m = nI (own (tm_ph i m))) ∧ (∀ m, m ≠ 0 → m < n - 1 → q 2 m = nI (tm_ps i (par (tm_ph i m)))) ∧ q 2 0 = -1 := by
  have hn24 := ht.2.1
  have l1 : ∃ w, tm_whl (bX5_takeOut_17 N) N (nI (i + 1), s) = some w ∧ (w.2 0 = s 0 ∧ (∀ m, w.2 1 m = if i ≤ m ∧ m + 1 < n then s 1 (m + 1) else s 1 m) ∧ (∀ m, w.2 2 m = if i ≤ m ∧ m + 1 < n then s 2 (m + 1) else s 2 m)) := by
    refine tm_fI (I := fun k st => st.1 = nI k ∧ st.2 0 = s 0 ∧ (∀ m, st.2 1 m = if i ≤ m ∧ m + 1 < k then s 1 (m + 1) else s 1 m) ∧ (∀ m, st.2 2 m = if i ≤ m ∧ m + 1 < k then s 2 (m + 1) else s 2 m)) (i + 1) n (by omega) ?_ ?_ (by omega) ⟨rfl, rfl, fun m => by rw [if_neg (by omega)], fun m => by rw [if_neg (by omega)]⟩
    · rintro k ⟨u, Q⟩ hk1 hk ⟨hu, q0, q1, q2⟩
      simp only at hu q0 q1 q2
      subst hu
      simp only [bX5_takeOut_17]
      rw [q0, h1, if_neg (nI_ge hk (by omega)), tm_gT (tm_inbN (show k < 24 by omega) (by decide)), show nI k - 1 = nI (k - 1) from pk_sub (b := 1) (by omega), tm_gT (tm_inbN (show k - 1 < 24 by omega) (by decide)), nI_clamp (show k < 2 ^ 31 by omega), nI_clamp (show k - 1 < 2 ^ 31 by omega), nI_1]
      have fin : ∀ (f : Nat → Int32) (F : Nat → Int32), (∀ m, F m = if i ≤ m ∧ m + 1 < k then f (m + 1) else f m) → ∀ m, upd F (k - 1) (F k) m = if i ≤ m ∧ m + 1 < k + 1 then f (m + 1) else f m := by
        intro f F hF m
        by_cases em : m = k - 1
        · rw [em, pk_us, hF, if_neg (by omega), if_pos (by omega), show k - 1 + 1 = k by omega]
        · rw [pk_un em, hF]
          by_cases hm : i ≤ m ∧ m + 1 < k
          · rw [if_pos hm, if_pos (by omega)]
          · rw [if_neg hm, if_neg (by omega)]
      refine ⟨_, rfl, rfl, ?_, fun m => ?_, fun m => ?_⟩
      · simp only
        rw [tm_ucN (by decide), tm_ucN (by decide)]
        exact q0
      · simp only
        rw [tm_ucN (by decide), tm_ucE]
        exact fin (s 1) (Q 1) q1 m
      · simp only
        rw [tm_ucE, tm_ucN (by decide)]
        exact fin (s 2) (Q 2) q2 m
    · rintro ⟨u, Q⟩ ⟨hu, q0, q1, q2⟩
      simp only at hu q0 q1 q2
      subst hu
      simp only [bX5_takeOut_17]
      rw [q0, h1, if_pos (nI_le (Nat.le_refl _) (by omega))]
      exact ⟨_, rfl, q0, q1, q2⟩
  obtain ⟨w, w1, w2, w3, w4⟩ := l1
  generalize hQ0 : tm_upk w.2 0 2 (w.2 0 2 - 1) = Q0
  have z0 : Q0 0 2 = nI (n - 1) := by rw [← hQ0, tm_ukE, w2, h1]; exact pk_sub (b := 1) (by omega)
  have zk : ∀ k, k ≠ 2 → Q0 0 k = s 0 k := fun k hk => by rw [← hQ0, tm_ukF hk, w2]
  have z1 : ∀ m, m < n - 1 → Q0 1 m = nI (own (tm_ph i m)) := fun m hm => by
    rw [← hQ0, tm_ukN (by decide), w3]
    by_cases c : m < i
    · rw [if_neg (by omega), tm_ph_l c]; exact h6 m (by omega)
    · rw [if_pos (by omega), tm_ph_g c]; exact h6 (m + 1) (by omega)
  have z2 : ∀ m, m ≠ 0 → m < n - 1 → Q0 2 m = nI (par (tm_ph i m)) := fun m hm0 hm => by
    rw [← hQ0, tm_ukN (by decide), w4]
    by_cases c : m < i
    · rw [if_neg (by omega), tm_ph_l c]; exact h7 m hm0 (by omega)
    · rw [if_pos (by omega), tm_ph_g c]; exact h7 (m + 1) (by omega) (by omega)
  have z20 : Q0 2 0 = -1 := by rw [← hQ0, tm_ukN (by decide), w4, if_neg (by omega)]; exact h8
  have l2 : ∃ v, tm_whl (bX5_takeOut_71 N (nI i)) N (nI 0, Q0) = some v ∧ ((∀ c, c ≠ 2 → v.2 c = Q0 c) ∧ (∀ m, m ≠ 0 → m < n - 1 → v.2 2 m = nI (tm_ps i (par (tm_ph i m)))) ∧ v.2 2 0 = -1) := by
    refine tm_fI (I := fun k st => st.1 = nI k ∧ (∀ c, c ≠ 2 → st.2 c = Q0 c) ∧ (∀ m, m ≠ 0 → m < k → st.2 2 m = nI (tm_ps i (par (tm_ph i m)))) ∧ (∀ m, k ≤ m → st.2 2 m = Q0 2 m) ∧ st.2 2 0 = -1) 0 (n - 1) (by omega) ?_ ?_ (by omega) ⟨rfl, fun c _ => rfl, fun m _ hm => by omega, fun m _ => rfl, z20⟩
    · rintro k ⟨u, Q⟩ _ hk ⟨hu, q0, q1, q2, q3⟩
      simp only at hu q0 q1 q2 q3
      subst hu
      simp only [bX5_takeOut_71]
      rw [q0 0 (by decide), z0, if_neg (nI_ge hk (by omega)), tm_gT (tm_inbN (show k < 24 by omega) (by decide)), nI_clamp (show k < 2 ^ 31 by omega)]
      by_cases hk0 : k = 0
      · subst hk0
        rw [q3, if_pos (show (-1 : Int32) ≤ nI i from by rw [Int32.le_iff_toInt_le, nI_toInt (by omega), show (-1 : Int32).toInt = -1 from by decide]; omega)]
        simp only [tm_nm, nI_1]
        exact ⟨_, rfl, rfl, q0, fun m hm0 hm => by omega, fun m hm => q2 m (by omega), q3⟩
      · have hp := (ht.2.2.2 (tm_ph i k) (tm_ph_0 hk0) (tm_ph_in hk)).1
        rw [q2 k (Nat.le_refl _), z2 k hk0 hk]
        by_cases c : i < par (tm_ph i k)
        · rw [if_neg (nI_ge c (by omega)), show nI (par (tm_ph i k)) - 1 = nI (par (tm_ph i k) - 1) from pk_sub (b := 1) (by omega)]
          simp only [tm_nm, nI_1]
          refine ⟨_, rfl, rfl, fun c hc => ?_, fun m hm0 hm => ?_, fun m hm => ?_, ?_⟩
          · simp only
            rw [tm_ucN hc]; exact q0 c hc
          · simp only
            rw [tm_ucE]
            by_cases em : m = k
            · rw [em, pk_us, tm_ps_g c]
            · rw [pk_un em]; exact q1 m hm0 (by omega)
          · simp only
            rw [tm_ucE, pk_un (by omega)]; exact q2 m (by omega)
          · simp only
            rw [tm_ucE, pk_un (by omega)]; exact q3
        · rw [if_pos (nI_le (by omega) (by omega))]
          simp only [tm_nm, nI_1]
          refine ⟨_, rfl, rfl, q0, fun m hm0 hm => ?_, fun m hm => q2 m (by omega), q3⟩
          by_cases em : m = k
          · rw [em, tm_ps_l c]
            exact (q2 k (Nat.le_refl _)).trans (z2 k hk0 hk)
          · exact q1 m hm0 (by omega)
    · rintro ⟨u, Q⟩ ⟨hu, q0, q1, q2, q3⟩
      simp only at hu q0 q1 q2 q3
      subst hu
      simp only [bX5_takeOut_71]
      rw [q0 0 (by decide), z0, if_pos (nI_le (Nat.le_refl _) (by omega))]
      exact ⟨_, rfl, q0, q1, q3⟩
  obtain ⟨v, v1, v2, v3, v4⟩ := l2
  refine ⟨v.2, ?_, by rw [v2 0 (by decide)]; exact z0, fun k hk => by rw [v2 0 (by decide)]; exact zk k hk, fun m hm => by rw [v2 1 (by decide)]; exact z1 m hm, v3, v4⟩
  simp only [fX5_takeOut]
  rw [tmX5_hasT h1 hn24 hi]
  simp only [Option.bind_some]
  rw [if_neg tm_10, if_neg (show ¬ nI i = 0 from nI_ne0 (by omega) (by omega))]
  simp only [tm_nm]
  rw [nI_1, w1]
  simp only [Option.bind_some]
  rw [hQ0, show ((0 : Int32), Q0) = (nI 0, Q0) from rfl, v1]
  rfl
theorem tmX8_take {N : Nat} (hN : 300 ≤ N) {s : tm_M} (ht : tm_tree n par dep) (h1 : s 1 0 = nI n) (h6 : ∀ i, i < n → s 1 (5 + i) = nI (own i)) (h7 : ∀ i, i ≠ 0 → i < n → s 1 (29 + i) = nI (par i)) (h8 : s 1 29 = -1) {i : Nat} (hi0 : i ≠ 0) (hi : i < n) : ∃ w v, tm_whl (bX8_removeLeaf_50 N) N (nI i, tm_upc s 1 (upd (s 1) 0 (nI n - 1))) = some w ∧ tm_whl (bX8_removeLeaf_106 N (nI i)) N (nI 0, w.2) = some v ∧ (∀ c, c ≠ 1 → v.2 c = s c) ∧ v.2 1 0 = nI (n - 1) ∧ (∀ m, m ≠ 0 → m < 5 → v.2 1 m = s 1 m) ∧ (∀ m, m < n - 1 → v.2 1 (5 + m) = nI (own (tm_ph i m))) ∧ (∀ m, m ≠ 0 → m < n - 1 → v.2 1 (29 + m) = nI (tm_ps i (par (tm_ph i m)))) ∧ v.2 1 29 = -1 := by
  have hn24 := ht.2.1
  have l1 : ∃ w, tm_whl (bX8_removeLeaf_50 N) N (nI i, tm_upc s 1 (upd (s 1) 0 (nI n - 1))) = some w ∧ ((∀ c, c ≠ 1 → w.2 c = s c) ∧ w.2 1 0 = nI (n - 1) ∧ (∀ m, m ≠ 0 → m < 5 → w.2 1 m = s 1 m) ∧ (∀ m, m < 24 → w.2 1 (5 + m) = if i ≤ m ∧ m < n - 1 then s 1 (5 + (m + 1)) else s 1 (5 + m)) ∧ (∀ m, m < 24 → w.2 1 (29 + m) = if i ≤ m ∧ m < n - 1 then s 1 (29 + (m + 1)) else s 1 (29 + m))) := by
    refine tm_fI (I := fun k st => st.1 = nI k ∧ (∀ c, c ≠ 1 → st.2 c = s c) ∧ st.2 1 0 = nI (n - 1) ∧ (∀ m, m ≠ 0 → m < 5 → st.2 1 m = s 1 m) ∧ (∀ m, m < 24 → st.2 1 (5 + m) = if i ≤ m ∧ m < k then s 1 (5 + (m + 1)) else s 1 (5 + m)) ∧ (∀ m, m < 24 → st.2 1 (29 + m) = if i ≤ m ∧ m < k then s 1 (29 + (m + 1)) else s 1 (29 + m))) i (n - 1) (by omega) ?_ ?_ (by omega) ⟨rfl, fun c hc => tm_ucN hc, ?_, fun m hm0 hm => ?_, fun m hm => ?_, fun m hm => ?_⟩
    · rintro k ⟨u, Q⟩ hk1 hk ⟨hu, q0, q1, q2, q3, q4⟩
      simp only at hu q0 q1 q2 q3 q4
      subst hu
      simp only [bX8_removeLeaf_50]
      rw [show (0 : Int32).toNatClampNeg = 0 from rfl, q1, if_neg (nI_ge hk (by omega))]
      simp only [tm_nm]
      rw [tm_5, tm_29, nI_1, nI_1, nI_1, tm_gT (tm_inbN (show 5 + k + 1 < 53 by omega) (by decide)), tm_gT (tm_inbN (show 5 + k < 53 by omega) (by decide)), tm_gT (tm_inbN (show 29 + k + 1 < 53 by omega) (by decide)), tm_gT (tm_inbN (show 29 + k < 53 by omega) (by decide)), nI_clamp (show 5 + k + 1 < 2 ^ 31 by omega), nI_clamp (show 5 + k < 2 ^ 31 by omega), nI_clamp (show 29 + k + 1 < 2 ^ 31 by omega), nI_clamp (show 29 + k < 2 ^ 31 by omega)]
      generalize hE : tm_upc (tm_upc Q 1 (upd (Q 1) (5 + k) (Q 1 (5 + k + 1)))) 1 (upd (tm_upc Q 1 (upd (Q 1) (5 + k) (Q 1 (5 + k + 1))) 1) (29 + k) (tm_upc Q 1 (upd (Q 1) (5 + k) (Q 1 (5 + k + 1))) 1 (29 + k + 1))) = E
      have hEc : ∀ c, c ≠ 1 → E c = Q c := fun c hc => by rw [← hE, tm_ucN hc, tm_ucN hc]
      have hEm : ∀ m, E 1 m = if m = 29 + k then Q 1 (29 + (k + 1)) else if m = 5 + k then Q 1 (5 + (k + 1)) else Q 1 m := fun m => by
        rw [← hE, tm_ucE, tm_ucE, ← Nat.add_assoc, ← Nat.add_assoc]
        by_cases c1 : m = 29 + k
        · rw [if_pos c1, c1, pk_us, pk_un (by omega)]
        · rw [if_neg c1, pk_un c1]
          by_cases c2 : m = 5 + k
          · rw [if_pos c2, c2, pk_us]
          · rw [if_neg c2, pk_un c2]
      refine ⟨_, rfl, rfl, fun c hc => ?_, ?_, fun m hm0 hm => ?_, fun m hm => ?_, fun m hm => ?_⟩
      · show E c = _
        rw [hEc c hc]; exact q0 c hc
      · show E 1 0 = _
        rw [hEm, if_neg (by omega), if_neg (by omega)]; exact q1
      · show E 1 m = _
        rw [hEm, if_neg (by omega), if_neg (by omega)]; exact q2 m hm0 hm
      · show E 1 (5 + m) = _
        rw [hEm]
        by_cases em : m = k
        · rw [if_neg (by omega), if_pos (by omega), if_pos (by omega), em, q3 (k + 1) (by omega), if_neg (by omega)]
        · rw [if_neg (by omega), if_neg (by omega), q3 m hm]
          by_cases c : i ≤ m ∧ m < k
          · rw [if_pos c, if_pos (by omega)]
          · rw [if_neg c, if_neg (by omega)]
      · show E 1 (29 + m) = _
        rw [hEm]
        by_cases em : m = k
        · rw [if_pos (by omega), if_pos (by omega), em, q4 (k + 1) (by omega), if_neg (by omega)]
        · rw [if_neg (by omega), if_neg (by omega), q4 m hm]
          by_cases c : i ≤ m ∧ m < k
          · rw [if_pos c, if_pos (by omega)]
          · rw [if_neg c, if_neg (by omega)]
    · rintro ⟨u, Q⟩ ⟨hu, q0, q1, q2, q3, q4⟩
      simp only at hu q0 q1 q2 q3 q4
      subst hu
      simp only [bX8_removeLeaf_50]
      rw [show (0 : Int32).toNatClampNeg = 0 from rfl, q1, if_pos (nI_le (Nat.le_refl _) (by omega))]
      exact ⟨_, rfl, q0, q1, q2, q3, q4⟩
    · simp only
      rw [tm_ucE, pk_us]; exact pk_sub (b := 1) (by omega)
    · simp only
      rw [tm_ucE, pk_un hm0]
    · simp only
      rw [tm_ucE, pk_un (by omega), if_neg (by omega)]
    · simp only
      rw [tm_ucE, pk_un (by omega), if_neg (by omega)]
  obtain ⟨w, w1, w2, w3, w4, w5, w6⟩ := l1
  have z2 : ∀ m, m ≠ 0 → m < n - 1 → w.2 1 (29 + m) = nI (par (tm_ph i m)) := fun m hm0 hm => by
    rw [w6 m (by omega)]
    by_cases c : m < i
    · rw [if_neg (by omega), tm_ph_l c]; exact h7 m hm0 (by omega)
    · rw [if_pos (by omega), tm_ph_g c]; exact h7 (m + 1) (by omega) (by omega)
  have z20 : w.2 1 29 = -1 := by
    rw [show (29 : Nat) = 29 + 0 from rfl, w6 0 (by omega), if_neg (by omega)]
    exact h8
  have l2 : ∃ v, tm_whl (bX8_removeLeaf_106 N (nI i)) N (nI 0, w.2) = some v ∧ ((∀ c, c ≠ 1 → v.2 c = w.2 c) ∧ (∀ m, m < 29 → v.2 1 m = w.2 1 m) ∧ (∀ m, m ≠ 0 → m < n - 1 → v.2 1 (29 + m) = nI (tm_ps i (par (tm_ph i m)))) ∧ v.2 1 29 = -1) := by
    refine tm_fI (I := fun k st => st.1 = nI k ∧ (∀ c, c ≠ 1 → st.2 c = w.2 c) ∧ (∀ m, m < 29 → st.2 1 m = w.2 1 m) ∧ (∀ m, m ≠ 0 → m < k → st.2 1 (29 + m) = nI (tm_ps i (par (tm_ph i m)))) ∧ (∀ m, k ≤ m → st.2 1 (29 + m) = w.2 1 (29 + m)) ∧ st.2 1 29 = -1) 0 (n - 1) (by omega) ?_ ?_ (by omega) ⟨rfl, fun c _ => rfl, fun m _ => rfl, fun m _ hm => by omega, fun m _ => rfl, z20⟩
    · rintro k ⟨u, Q⟩ _ hk ⟨hu, q0, qs, q1, q2, q3⟩
      simp only at hu q0 qs q1 q2 q3
      subst hu
      simp only [bX8_removeLeaf_106]
      rw [show (0 : Int32).toNatClampNeg = 0 from rfl, qs 0 (by decide), w3, if_neg (nI_ge hk (by omega)), tm_29, tm_gT (tm_inbN (show 29 + k < 53 by omega) (by decide)), nI_clamp (show 29 + k < 2 ^ 31 by omega)]
      have step : ∀ x : Int32, (k = 0 → x = -1) → (k ≠ 0 → x = nI (tm_ps i (par (tm_ph i k)))) → ∃ s', (some (Sum.inl (nI (k + 1), tm_upc Q 1 (upd (Q 1) (29 + k) x))) : Option ((Int32 × tm_M) ⊕ (Int32 × tm_M))) = some (.inl s') ∧ s'.1 = nI (k + 1) ∧ (∀ c, c ≠ 1 → s'.2 c = w.2 c) ∧ (∀ m, m < 29 → s'.2 1 m = w.2 1 m) ∧ (∀ m, m ≠ 0 → m < k + 1 → s'.2 1 (29 + m) = nI (tm_ps i (par (tm_ph i m)))) ∧ (∀ m, k + 1 ≤ m → s'.2 1 (29 + m) = w.2 1 (29 + m)) ∧ s'.2 1 29 = -1 := by
        intro x hx0 hx
        refine ⟨_, rfl, rfl, fun c hc => ?_, fun m hm => ?_, fun m hm0 hm => ?_, fun m hm => ?_, ?_⟩
        · simp only
          rw [tm_ucN hc]; exact q0 c hc
        · simp only
          rw [tm_ucE, pk_un (by omega)]; exact qs m hm
        · simp only
          rw [tm_ucE]
          by_cases em : m = k
          · rw [em, pk_us]; exact hx (by omega)
          · rw [pk_un (by omega)]; exact q1 m hm0 (by omega)
        · simp only
          rw [tm_ucE, pk_un (by omega)]; exact q2 m (by omega)
        · simp only
          rw [tm_ucE]
          by_cases hk0 : k = 0
          · rw [hk0]
            exact pk_us.trans (hx0 hk0)
          · rw [pk_un (by omega)]; exact q3
      by_cases hk0 : k = 0
      · have e0 : Q 1 (29 + k) = -1 := by rw [hk0]; exact q3
        rw [e0, if_pos (show (-1 : Int32) ≤ nI i from by rw [Int32.le_iff_toInt_le, nI_toInt (by omega), show (-1 : Int32).toInt = -1 from by decide]; omega)]
        simp only [tm_nm, nI_1]
        exact step _ (fun _ => by decide) (fun q => absurd hk0 q)
      · have hp := (ht.2.2.2 (tm_ph i k) (tm_ph_0 hk0) (tm_ph_in hk)).1
        rw [q2 k (Nat.le_refl _), z2 k hk0 hk]
        by_cases c : i < par (tm_ph i k)
        · rw [if_neg (nI_ge c (by omega)), show nI (par (tm_ph i k)) - 1 = nI (par (tm_ph i k) - 1) from pk_sub (b := 1) (by omega)]
          simp only [tm_nm, nI_1]
          exact step _ (fun q => absurd q hk0) (fun _ => by rw [tm_ps_g c])
        · rw [if_pos (nI_le (by omega) (by omega)), show nI (par (tm_ph i k)) - 0 = nI (par (tm_ph i k)) from pk_sub (b := 0) (by omega)]
          simp only [tm_nm, nI_1]
          exact step _ (fun q => absurd q hk0) (fun _ => by rw [tm_ps_l c])
    · rintro ⟨u, Q⟩ ⟨hu, q0, qs, q1, q2, q3⟩
      simp only at hu q0 qs q1 q2 q3
      subst hu
      simp only [bX8_removeLeaf_106]
      rw [show (0 : Int32).toNatClampNeg = 0 from rfl, qs 0 (by decide), w3, if_pos (nI_le (Nat.le_refl _) (by omega))]
      exact ⟨_, rfl, q0, qs, q1, q3⟩
  obtain ⟨v, v1, v2, v3, v4, v5⟩ := l2
  refine ⟨w, v, w1, v1, fun c hc => by rw [v2 c hc]; exact w2 c hc, by rw [v3 0 (by decide)]; exact w3, fun m hm0 hm => by rw [v3 m (by omega)]; exact w4 m hm0 hm, fun m hm => ?_, v4, v5⟩
  rw [v3 (5 + m) (by omega), w5 m (by omega)]
  by_cases c : m < i
  · rw [if_neg (by omega), tm_ph_l c]; exact h6 m (by omega)
  · rw [if_pos (by omega), tm_ph_g c]; exact h6 (m + 1) (by omega)
