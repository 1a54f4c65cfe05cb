/-! copies, the layout made anew, the saved states -/
variable {n W H pad md : Nat} {own par dep : Nat → Nat} {r : Nat → tm_R} {hb : Nat → Bool} {d e d' e' : tm_M}
theorem tmX5_copy (N : Nat) (a b : tm_M) : ∃ t, fX5_copyFrom N a b = some t ∧ (∀ k, 2 ≤ k → k ≤ 6 → t 0 k = b 0 k) ∧ (∀ i, i < 24 → t 1 i = b 1 i) ∧ (∀ i, i < 24 → t 2 i = b 2 i) := by
  refine ⟨_, rfl, fun k h2 h6 => ?_, fun i hi => ?_, fun i hi => ?_⟩
  · rcases (show k = 2 ∨ k = 3 ∨ k = 4 ∨ k = 5 ∨ k = 6 by omega) with rfl | rfl | rfl | rfl | rfl <;> rfl
  · show va_cpy (b 1) (a 1) (0 : Int32).toNatClampNeg (0 : Int32).toNatClampNeg (24 : Int32).toNatClampNeg i = b 1 i
    rw [show (0 : Int32).toNatClampNeg = 0 from rfl, show (24 : Int32).toNatClampNeg = 24 from rfl, pk_cpy_in (by omega) (by omega), Nat.zero_add, Nat.sub_zero]
  · show va_cpy (b 2) (a 2) (0 : Int32).toNatClampNeg (0 : Int32).toNatClampNeg (24 : Int32).toNatClampNeg i = b 2 i
    rw [show (0 : Int32).toNatClampNeg = 0 from rfl, show (24 : Int32).toNatClampNeg = 24 from rfl, pk_cpy_in (by omega) (by omega), Nat.zero_add, Nat.sub_zero]
theorem tm_stX_k {s t : tm_M} (hn : n ≤ 24) (h : tm_stX s n own par W H pad md) (h0 : ∀ k, 2 ≤ k → k ≤ 6 → t 0 k = s 0 k) (h1 : ∀ i, i < 24 → t 1 i = s 1 i) (h2 : ∀ i, i < 24 → t 2 i = s 2 i) : tm_stX t n own par W H pad md := by
  obtain ⟨a1, a2, a3, a4, a5, a6, a7, a8⟩ := h
  exact ⟨by rw [h0 2 (by omega) (by omega)]; exact a1, by rw [h0 3 (by omega) (by omega)]; exact a2, by rw [h0 4 (by omega) (by omega)]; exact a3, by rw [h0 5 (by omega) (by omega)]; exact a4, by rw [h0 6 (by omega) (by omega)]; exact a5, fun i hi => by rw [h1 i (by omega)]; exact a6 i hi, fun i hi0 hi => by rw [h2 i (by omega)]; exact a7 i hi0 hi, by rw [h2 0 (by omega)]; exact a8⟩
theorem tm_arr {N : Nat} (hN : 300 ≤ N) (hv : tm_stv n own par dep W H pad md) (hX : tm_stX (tm_sh d 1) n own par W H pad md) (hR : tm_stR (e 1) n own par W H pad md) (her : tm_err d e) (hri : tm_ring d e) : ∃ t r hb, fX1_arrange N (tm_sh d 4) (tm_sh d 1) = some t ∧ tm_J (tm_ins d 4 26 t) e n own par dep W H pad md r hb := by
  obtain ⟨t, r, hb, h1, h2, h3⟩ := tmX1_arr (d := tm_sh d 4) hN hv hX
  have hlo : ∀ c, c < 4 ∨ 30 ≤ c → tm_ins d 4 26 t c = d c := fun c hc => tm_inN (by omega)
  refine ⟨t, r, hb, h1, hv, tm_stX_c hX (hlo (0 + 1) (by omega)) (hlo (1 + 1) (by omega)) (hlo (2 + 1) (by omega)), hR, h2, tm_laid_c h3 (fun c hc => ?_), ?_, tm_ring_c hri (by rw [hlo 30 (by omega)]) (by rw [hlo 30 (by omega)]) (fun c h1 h2 => hlo c (by omega)) rfl rfl⟩
  · show tm_ins d 4 26 t (c + 4) = t c
    rw [Nat.add_comm]
    exact tm_inE (by omega)
  · unfold tm_err
    rw [hlo 0 (by omega)]
    exact her
def tm_pfin (q : tm_M) : Option tm_M := if 4 ≤ ((q 0 1) + 1) then (tm_nm (tm_upk q 0 1 0) fun d5 => if 4 ≤ (d5 0 2) then (tm_nm (tm_upk d5 0 2 4) fun d7 => some d7) else (tm_nm (tm_upk d5 0 2 ((d5 0 2) + 1)) fun d8 => some d8)) else (tm_nm (tm_upk q 0 1 ((q 0 1) + 1)) fun d9 => if 4 ≤ (d9 0 2) then (tm_nm (tm_upk d9 0 2 4) fun d11 => some d11) else (tm_nm (tm_upk d9 0 2 ((d9 0 2) + 1)) fun d12 => some d12))
theorem tm_push_e (N : Nat) (P s : tm_M) : fX6_push N P s = if P 0 1 = 0 then (fX5_copyFrom N (tm_sh P 2) s).bind (fun t => tm_pfin (tm_ins P 2 3 t)) else (if P 0 1 = 1 then (fX5_copyFrom N (tm_sh P 5) s).bind (fun t => tm_pfin (tm_ins P 5 3 t)) else (if P 0 1 = 2 then (fX5_copyFrom N (tm_sh P 8) s).bind (fun t => tm_pfin (tm_ins P 8 3 t)) else (if P 0 1 = 3 then (fX5_copyFrom N (tm_sh P 11) s).bind (fun t => tm_pfin (tm_ins P 11 3 t)) else none))) := rfl
theorem tm_pfin_ok {q : tm_M} {nx ct : Nat} (hnx : nx < 4) (hct : ct ≤ 4) (h1 : q 0 1 = nI nx) (h2 : q 0 2 = nI ct) : ∃ t, tm_pfin q = some t ∧ t 0 1 = nI ((nx + 1) % 4) ∧ t 0 2 = nI (if ct < 4 then ct + 1 else 4) ∧ ∀ x, x ≠ 0 → t x = q x := by
  simp only [tm_pfin, tm_nm]
  rw [h1, nI_1, show (4 : Int32) = nI 4 from rfl]
  have h3 : ∀ v, tm_upk q 0 1 v 0 2 = nI ct := fun v => by rw [tm_ukF (show 2 ≠ 1 by decide)]; exact h2
  rw [h3, h3, nI_1]
  by_cases hx : nx = 3
  · rw [if_pos (nI_le (by omega) (by omega))]
    by_cases hc : ct < 4
    · rw [if_neg (by rw [nI_leI (by omega) (by omega)]; omega), if_pos hc]
      refine ⟨_, rfl, ?_, ?_, fun x hx => ?_⟩
      · rw [tm_ukF (show 1 ≠ 2 by decide), tm_ukE, hx]
        rfl
      · rw [tm_ukE]
      · rw [tm_ukN hx, tm_ukN hx]
    · rw [if_pos (nI_le (by omega) (by omega)), if_neg hc]
      refine ⟨_, rfl, ?_, ?_, fun x hx => ?_⟩
      · rw [tm_ukF (show 1 ≠ 2 by decide), tm_ukE, hx]
        rfl
      · rw [tm_ukE]
      · rw [tm_ukN hx, tm_ukN hx]
  · rw [if_neg (by rw [nI_leI (by omega) (by omega)]; omega)]
    by_cases hc : ct < 4
    · rw [if_neg (by rw [nI_leI (by omega) (by omega)]; omega), if_pos hc]
      refine ⟨_, rfl, ?_, ?_, fun x hx => ?_⟩
      · rw [tm_ukF (show 1 ≠ 2 by decide), tm_ukE, Nat.mod_eq_of_lt (by omega)]
      · rw [tm_ukE]
      · rw [tm_ukN hx, tm_ukN hx]
    · rw [if_pos (nI_le (by omega) (by omega)), if_neg hc]
      refine ⟨_, rfl, ?_, ?_, fun x hx => ?_⟩
      · rw [tm_ukF (show 1 ≠ 2 by decide), tm_ukE, Nat.mod_eq_of_lt (by omega)]
      · rw [tm_ukE]
      · rw [tm_ukN hx, tm_ukN hx]
theorem tm_pfin_in {P c : tm_M} {nx ct o : Nat} (ho : o = 2 + 3 * nx) (hnx : nx < 4) (hct : ct ≤ 4) (h1 : P 0 1 = nI nx) (h2 : P 0 2 = nI ct) : ∃ t, tm_pfin (tm_ins P o 3 c) = some t ∧ t 0 1 = nI ((nx + 1) % 4) ∧ t 0 2 = nI (if ct < 4 then ct + 1 else 4) ∧ (∀ x, x < 3 → t (o + x) = c x) ∧ (∀ x, x ≠ 0 → x < o ∨ o + 3 ≤ x → t x = P x) := by
  have h0 : tm_ins P o 3 c 0 = P 0 := tm_inN (by omega)
  obtain ⟨t, t1, t2, t3, t4⟩ := tm_pfin_ok (q := tm_ins P o 3 c) hnx hct (by rw [h0]; exact h1) (by rw [h0]; exact h2)
  refine ⟨t, t1, t2, t3, fun x hx => ?_, fun x hx0 hx => ?_⟩
  · rw [t4 _ (by omega), tm_inE hx]
  · rw [t4 _ hx0, tm_inN hx]
theorem tmX6_push (N : Nat) {P s : tm_M} {nx ct : Nat} (hnx : nx < 4) (hct : ct ≤ 4) (h1 : P 0 1 = nI nx) (h2 : P 0 2 = nI ct) : ∃ t c, fX5_copyFrom N (tm_sh P (2 + 3 * nx)) s = some c ∧ fX6_push N P s = some t ∧ t 0 1 = nI ((nx + 1) % 4) ∧ t 0 2 = nI (if ct < 4 then ct + 1 else 4) ∧ (∀ x, x < 3 → t (2 + 3 * nx + x) = c x) ∧ (∀ x, x ≠ 0 → x < 2 + 3 * nx ∨ 2 + 3 * nx + 3 ≤ x → t x = P x) := by
  obtain ⟨c, c1, _⟩ := tmX5_copy N (tm_sh P (2 + 3 * nx)) s
  obtain ⟨t, t1, t2, t3, t4, t5⟩ := tm_pfin_in (c := c) rfl hnx hct h1 h2
  refine ⟨t, c, c1, ?_, t2, t3, t4, t5⟩
  rw [tm_push_e, h1]
  rcases (show nx = 0 ∨ nx = 1 ∨ nx = 2 ∨ nx = 3 by omega) with rfl | rfl | rfl | rfl
  · rw [if_pos (show nI 0 = 0 from by decide +kernel)]
    rw [show fX5_copyFrom N (tm_sh P 2) s = some c from c1]
    exact t1
  · rw [if_neg (show ¬ nI 1 = 0 from by decide +kernel), if_pos (show nI 1 = 1 from by decide +kernel)]
    rw [show fX5_copyFrom N (tm_sh P 5) s = some c from c1]
    exact t1
  · rw [if_neg (show ¬ nI 2 = 0 from by decide +kernel), if_neg (show ¬ nI 2 = 1 from by decide +kernel), if_pos (show nI 2 = 2 from by decide +kernel)]
    rw [show fX5_copyFrom N (tm_sh P 8) s = some c from c1]
    exact t1
  · rw [if_neg (show ¬ nI 3 = 0 from by decide +kernel), if_neg (show ¬ nI 3 = 1 from by decide +kernel), if_neg (show ¬ nI 3 = 2 from by decide +kernel), if_pos (show nI 3 = 3 from by decide +kernel)]
    rw [show fX5_copyFrom N (tm_sh P 11) s = some c from c1]
    exact t1
theorem tm_53 (a b : Nat) : (53 : Int32) * nI a + nI b = nI (53 * a + b) := by
  rw [show (53 : Int32) = nI 53 from rfl, pk_mul, nI_add]
theorem tmX8_s50 {N : Nat} (hN : 300 ≤ N) {ct : Nat} (hct : ct < 4) (h : e 0 2 = nI ct) : ∃ w, tm_whl (bX8_saves_50 N) N (nI 0, e) = some w ∧ (∀ c, c ≠ 2 → w.2 c = e c) ∧ ∀ m, w.2 2 m = if 53 * ct ≤ m ∧ m < 53 * ct + 53 then e 1 (m - 53 * ct) else e 2 m := by
  refine tm_fI (I := fun k st => st.1 = nI k ∧ (∀ c, c ≠ 2 → st.2 c = e c) ∧ ∀ m, st.2 2 m = if 53 * ct ≤ m ∧ m < 53 * ct + k then e 1 (m - 53 * ct) else e 2 m) 0 53 (by omega) ?_ ?_ (by omega) ⟨rfl, fun c _ => rfl, fun m => by rw [if_neg (by omega)]⟩
  · rintro k ⟨u, Q⟩ _ hk ⟨hu, q1, q2⟩
    simp only at hu q1 q2
    subst hu
    simp only [bX8_saves_50]
    rw [if_neg (show ¬ (53 : Int32) ≤ nI k from nI_ge (b := 53) hk (by decide)), q1 0 (by decide), h, tm_53, tm_gT (tm_inbN hk (by decide)), tm_gT (tm_inbN (show 53 * ct + k < 212 by omega) (by decide)), nI_clamp (show 53 * ct + k < 2 ^ 31 by omega), nI_clamp (show k < 2 ^ 31 by omega), q1 1 (by decide), nI_1]
    refine ⟨_, rfl, rfl, fun c hc => ?_, fun m => ?_⟩
    · simp only
      rw [tm_ucN hc]
      exact q1 c hc
    · simp only
      rw [tm_ucE]
      by_cases em : m = 53 * ct + k
      · rw [em, pk_us, if_pos (by omega), show 53 * ct + k - 53 * ct = k by omega]
      · rw [pk_un em, q2 m]
        by_cases hm : 53 * ct ≤ m ∧ m < 53 * ct + k
        · rw [if_pos hm, if_pos (by omega)]
        · rw [if_neg hm, if_neg (by omega)]
  · rintro ⟨u, Q⟩ ⟨hu, q1, q2⟩
    simp only at hu q1 q2
    subst hu
    simp only [bX8_saves_50]
    rw [if_pos (show (53 : Int32) ≤ nI 53 from nI_le (a := 53) (Nat.le_refl _) (by decide))]
    exact ⟨_, rfl, q1, q2⟩
theorem tmX8_s10 {N : Nat} (hN : 300 ≤ N) : ∃ w, tm_whl (bX8_saves_10 N) N (nI 0, e) = some w ∧ (∀ c, c ≠ 2 → w.2 c = e c) ∧ ∀ m, w.2 2 m = if m < 159 then e 2 (m + 53) else e 2 m := by
  refine tm_fI (I := fun k st => st.1 = nI k ∧ (∀ c, c ≠ 2 → st.2 c = e c) ∧ ∀ m, st.2 2 m = if m < k then e 2 (m + 53) else e 2 m) 0 159 (by omega) ?_ ?_ (by omega) ⟨rfl, fun c _ => rfl, fun m => by rw [if_neg (by omega)]⟩
  · rintro k ⟨u, Q⟩ _ hk ⟨hu, q1, q2⟩
    simp only at hu q1 q2
    subst hu
    simp only [bX8_saves_10]
    rw [if_neg (show ¬ (159 : Int32) ≤ nI k from nI_ge (b := 159) hk (by decide)), show nI k + 53 = nI (k + 53) from nI_add k 53, tm_gT (tm_inbN (show k + 53 < 212 by omega) (by decide)), tm_gT (tm_inbN (show k < 212 by omega) (by decide)), nI_clamp (show k < 2 ^ 31 by omega), nI_clamp (show k + 53 < 2 ^ 31 by omega), nI_1]
    refine ⟨_, rfl, rfl, fun c hc => ?_, fun m => ?_⟩
    · simp only
      rw [tm_ucN hc]
      exact q1 c hc
    · simp only
      rw [tm_ucE]
      by_cases em : m = k
      · rw [em, pk_us, if_pos (by omega), q2, if_neg (by omega)]
      · rw [pk_un em, q2 m]
        by_cases hm : m < k
        · rw [if_pos hm, if_pos (by omega)]
        · rw [if_neg hm, if_neg (by omega)]
  · rintro ⟨u, Q⟩ ⟨hu, q1, q2⟩
    simp only at hu q1 q2
    subst hu
    simp only [bX8_saves_10]
    rw [if_pos (show (159 : Int32) ≤ nI 159 from nI_le (a := 159) (Nat.le_refl _) (by decide))]
    exact ⟨_, rfl, q1, q2⟩
theorem tmX8_saves {N : Nat} (hN : 300 ≤ N) (g : Int64) {ct : Nat} (hct : ct ≤ 4) (h : e 0 2 = nI ct) : ∃ e1, fX8_saves N e g = some e1 ∧ (∀ c, c ≠ 0 → c ≠ 2 → e1 c = e c) ∧ e1 0 2 = nI (if ct < 4 then ct + 1 else 4) ∧ (∀ j k, k < 53 → j < (if ct < 4 then ct else 3) → e1 2 (53 * j + k) = e 2 (53 * (if ct < 4 then j else j + 1) + k)) ∧ (∀ k, k < 53 → e1 2 (53 * (if ct < 4 then ct else 3) + k) = e 1 k) := by
  simp only [fX8_saves]
  by_cases hc : ct < 4
  · rw [if_neg (by rw [h, show (4 : Int32) = nI 4 from rfl, nI_eq (by omega) (by omega)]; omega)]
    obtain ⟨w, w1, w2, w3⟩ := tmX8_s50 hN hc h
    rw [show ((0 : Int32), e) = (nI 0, e) from rfl, w1]
    simp only [Option.bind_some, tm_nm, if_pos hc]
    refine ⟨_, rfl, fun c h0 h2 => ?_, ?_, fun j k hk hj => ?_, fun k hk => ?_⟩
    · rw [tm_ukN h0, w2 c h2]
    · rw [tm_ukE, w2 0 (by decide), h, nI_1]
    · rw [tm_ukN (show 2 ≠ 0 by decide), w3, if_neg (by omega)]
    · rw [tm_ukN (show 2 ≠ 0 by decide), w3, if_pos (by omega), show 53 * ct + k - 53 * ct = k by omega]
  · have hc4 : ct = 4 := by omega
    rw [if_pos (by rw [h, hc4]; rfl)]
    obtain ⟨w, w1, w2, w3⟩ := tmX8_s10 (e := e) hN
    have hs3 : tm_upk w.2 0 2 (w.2 0 2 - 1) 0 2 = nI 3 := by
      rw [tm_ukE, w2 0 (by decide), h, hc4]
      exact pk_sub (a := 4) (b := 1) (by decide)
    obtain ⟨v, v1, v2, v3⟩ := tmX8_s50 hN (show 3 < 4 by decide) hs3
    rw [show ((0 : Int32), e) = (nI 0, e) from rfl, w1]
    simp only [Option.bind_some, tm_nm, if_neg hc]
    rw [show ((0 : Int32), tm_upk w.2 0 2 (w.2 0 2 - 1)) = (nI 0, tm_upk w.2 0 2 (w.2 0 2 - 1)) from rfl, v1]
    simp only [Option.bind_some]
    refine ⟨_, rfl, fun c h0 h2 => ?_, ?_, fun j k hk hj => ?_, fun k hk => ?_⟩
    · rw [tm_ukN h0, v2 c h2, tm_ukN h0, w2 c h2]
    · rw [tm_ukE, v2 0 (by decide), hs3, nI_1]
    · rw [tm_ukN (show 2 ≠ 0 by decide), v3, if_neg (by omega), tm_ukN (show 2 ≠ 0 by decide), w3, if_pos (by omega), show 53 * j + k + 53 = 53 * (j + 1) + k by omega]
    · rw [tm_ukN (show 2 ≠ 0 by decide), v3, if_pos (by omega), show 53 * 3 + k - 53 * 3 = k by omega, tm_ukN (show 1 ≠ 0 by decide), w2 1 (by decide)]
