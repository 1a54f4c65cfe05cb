/-! the reference: sizes, the children of a node -/
theorem tmX8_sz {N : Nat} (hN : 300 ≤ N) {e : tm_M} {g0 : Int64} {n p : Nat} {own par dep : Nat → Nat} (ht : tm_tree n par dep) (h1 : e 1 0 = nI n) (h6 : ∀ i, i < n → e 1 (5 + i) = nI (own i)) (h7 : ∀ i, i ≠ 0 → i < n → e 1 (29 + i) = nI (par i)) (h8 : e 1 29 = -1) (hp : p < 2 ^ 31) : fX8_sizeOf N e g0 (nI p) = some (nI (tm_sz n own par dep p)) := by
  have hn24 := ht.2.1
  have hx0 : ∀ q : Nat, nI q + 0 = nI q := fun q => by rw [← nI_0, nI_add, Nat.add_zero]
  have hl : tm_whl (bX8_sizeOf_4 N e g0 (nI p)) N (nI (tm_sum (fun l => if tm_ud par dep l p = true then tm_lf n own par l else 0) 0), nI 0) = some (nI (tm_sum (fun l => if tm_ud par dep l p = true then tm_lf n own par l else 0) n), nI n) := by
    refine tm_forE (fun i => (nI (tm_sum (fun l => if tm_ud par dep l p = true then tm_lf n own par l else 0) i), nI i)) 0 n (by omega) ?_ ?_ (by omega)
    · intro i _ hi
      have hcl := tm_cc_le (par := par) (p := i) n
      simp only [bX8_sizeOf_4, tm_sum]
      rw [show (0 : Int32).toNatClampNeg = 0 from rfl, h1, if_neg (by rw [nI_leI (by omega) (by omega)]; omega), tmX8_cm hN ht h1 h7 h8 (show i < 2 ^ 31 by omega)]
      simp only [Option.bind_some]
      by_cases hm : tm_cc par i n = 0
      · rw [if_pos (by rw [hm]; exact nI_0), tmX8_ud hN ht h7 h8 hi hp]
        simp only [Option.bind_some]
        have hlf : tm_lf n own par i = own i := by unfold tm_lf; rw [if_pos hm]
        by_cases hu : tm_ud par dep i p = true
        · rw [if_pos hu, if_neg (by decide), tm_5, tm_gT (tm_inbN (by omega) (by decide)), nI_clamp (by omega), h6 i hi, if_pos hu, hlf]
          simp only [tm_nm, nI_add, nI_1]
        · rw [if_neg hu, if_pos rfl, if_neg hu]
          simp only [tm_nm, nI_1, hx0, Nat.add_zero]
      · rw [if_neg (nI_ne0 (by omega) (by omega))]
        have hlf : tm_lf n own par i = 0 := by unfold tm_lf; rw [if_neg hm]
        have : (if tm_ud par dep i p = true then tm_lf n own par i else 0) = 0 := by rw [hlf]; split <;> rfl
        rw [this]
        simp only [tm_nm, nI_1, hx0, Nat.add_zero]
    · simp only [bX8_sizeOf_4]
      rw [show (0 : Int32).toNatClampNeg = 0 from rfl, h1, if_pos (nI_le (Nat.le_refl _) (by omega))]
  simp only [fX8_sizeOf]
  rw [show ((0 : Int32), (0 : Int32)) = (nI (tm_sum (fun l => if tm_ud par dep l p = true then tm_lf n own par l else 0) 0), nI 0) from rfl, hl]
  rfl
theorem tmX8_ch {N : Nat} (hN : 300 ≤ N) {e : tm_M} {g0 : Int64} {n p : Nat} {par dep : Nat → Nat} (ht : tm_tree n par dep) (h1 : e 1 0 = nI n) (h7 : ∀ i, i ≠ 0 → i < n → e 1 (29 + i) = nI (par i)) (h8 : e 1 29 = -1) (hp : p < 2 ^ 31) :
    ∃ e', fX8_laysChildren N e g0 (nI p) = some e' ∧ e' 0 13 = nI (tm_cc par p n) ∧ (∀ j, j < tm_cc par p n → e' 12 j = nI (tm_kd par p n j)) ∧ (∀ c, c ≠ 0 → c ≠ 12 → e' c = e c) ∧ (∀ k, k ≠ 13 → e' 0 k = e 0 k) := by
  have hn24 := ht.2.1
  have hl : ∃ w, tm_whl (bX8_laysChildren_7 N (nI p)) N (nI 0, tm_upk e 0 13 0) = some w ∧ (w.2 0 13 = nI (tm_cc par p n) ∧ (∀ j, j < tm_cc par p n → w.2 12 j = nI (tm_kd par p n j)) ∧ (∀ c, c ≠ 0 → c ≠ 12 → w.2 c = e c) ∧ (∀ k, k ≠ 13 → w.2 0 k = e 0 k)) := by
    refine tm_fI (I := fun i st => st.1 = nI i ∧ st.2 0 13 = nI (tm_cc par p i) ∧ (∀ j, j < tm_cc par p i → st.2 12 j = nI (tm_kd par p i j)) ∧ (∀ c, c ≠ 0 → c ≠ 12 → st.2 c = e c) ∧ (∀ k, k ≠ 13 → st.2 0 k = e 0 k)) 0 n (by omega) ?_ ?_ (by omega) ⟨rfl, by show tm_upk e 0 13 0 0 13 = _; rw [tm_ukE]; rfl, fun j hj => absurd hj (by simp only [tm_cc]; omega), fun c hc _ => tm_ukN hc, fun k hk => by show tm_upk e 0 13 0 0 k = _; rw [tm_ukF hk]⟩
    · rintro i ⟨u, Q⟩ _ hi ⟨hu, q1, q2, q3, q4⟩
      simp only at hu q1 q2 q3 q4
      subst hu
      have hcl := tm_cc_le (par := par) (p := p) i
      have hpm := tm_parM ht h7 h8 hi hp
      simp only [bX8_laysChildren_7]
      rw [show (0 : Int32).toNatClampNeg = 0 from rfl, q3 1 (by decide) (by decide), h1, if_neg (by rw [nI_leI (by omega) (by omega)]; omega), tm_29, tm_gT (tm_inbN (by omega) (by decide)), nI_clamp (by omega)]
      by_cases hc : i ≠ 0 ∧ par i = p
      · have hc1 : tm_cc par p (i + 1) = tm_cc par p i + 1 := by
          simp only [tm_cc]
          rw [if_pos hc]
        have hk1 : ∀ j, tm_kd par p (i + 1) j = if j = tm_cc par p i then i else tm_kd par p i j := fun j => by
          simp only [tm_kd]
          by_cases ej : j = tm_cc par p i
          · rw [if_pos ⟨hc, ej⟩, if_pos ej]
          · rw [if_neg (fun qq => ej qq.2), if_neg ej]
        rw [if_pos (hpm.mpr hc), q1, tm_gT (tm_inbN (by omega) (by decide)), nI_clamp (show tm_cc par p i < 2 ^ 31 by omega)]
        simp only [tm_nm, nI_1]
        refine ⟨_, rfl, rfl, ?_, ?_, ?_, ?_⟩
        · simp only
          rw [tm_ukE, tm_ucN (by decide), q1, nI_1, hc1]
        · intro j hj
          rw [hc1] at hj
          simp only
          rw [tm_ukN (by decide), tm_ucE, hk1]
          by_cases ej : j = tm_cc par p i
          · rw [if_pos ej, ej, pk_us]
          · rw [if_neg ej, pk_un ej]
            exact q2 j (by omega)
        · intro c c0 c12
          simp only
          rw [tm_ukN c0, tm_ucN c12]
          exact q3 c c0 c12
        · intro k hk
          simp only
          rw [tm_ukF hk, tm_ucN (by decide)]
          exact q4 k hk
      · have hc1 : tm_cc par p (i + 1) = tm_cc par p i := by
          simp only [tm_cc]
          rw [if_neg hc]
        have hk1 : ∀ j, tm_kd par p (i + 1) j = tm_kd par p i j := fun j => by
          simp only [tm_kd]
          rw [if_neg (fun qq => hc qq.1)]
        rw [if_neg (fun q => hc (hpm.mp q))]
        simp only [tm_nm, nI_1]
        refine ⟨_, rfl, rfl, ?_, ?_, q3, q4⟩
        · simp only
          rw [hc1]
          exact q1
        · intro j hj
          rw [hc1] at hj
          rw [hk1]
          exact q2 j hj
    · rintro ⟨u, Q⟩ ⟨hu, q1, q2, q3, q4⟩
      simp only at hu q1 q2 q3 q4
      subst hu
      simp only [bX8_laysChildren_7]
      rw [show (0 : Int32).toNatClampNeg = 0 from rfl, q3 1 (by decide) (by decide), h1, if_pos (nI_le (Nat.le_refl _) (by omega))]
      exact ⟨_, rfl, q1, q2, q3, q4⟩
  obtain ⟨w, w1, w2, w3, w4, w5⟩ := hl
  refine ⟨w.2, ?_, w2, w3, w4, w5⟩
  simp only [fX8_laysChildren, tm_nm]
  rw [show ((0 : Int32), tm_upk e 0 13 0) = (nI 0, tm_upk e 0 13 0) from rfl, w1]
  rfl
