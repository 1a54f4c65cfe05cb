/-! one state more, one state less on the stack of saved states -/
variable {n W H pad md : Nat} {own par dep : Nat → Nat} {r : Nat → tm_R} {hb : Nat → Bool} {d e d' e' : tm_M}
theorem tm_push {N : Nat} (hN : 300 ≤ N) (g : Int64) (h : tm_J d e n own par dep W H pad md r hb) : ∃ t e1, fX6_push N (tm_sh d 30) (tm_sh d 1) = some t ∧ fX8_saves N e g = some e1 ∧ tm_ring (tm_ins d 30 14 t) e1 ∧ (∀ c, c < 30 → tm_ins d 30 14 t c = d c) ∧ (∀ c, c ≠ 0 → c ≠ 2 → e1 c = e c) := by
  obtain ⟨nx, ct, a1, a2, a3, a4, a5, a6⟩ := h.2.2.2.2.2.2
  obtain ⟨t, c, p1, p2, p3, p4, p5, p6⟩ := tmX6_push N (P := tm_sh d 30) (s := tm_sh d 1) a1 a2 a3 a4
  obtain ⟨e1, q1, q2, q3, q4, q5⟩ := tmX8_saves hN g a2 a5
  obtain ⟨c', k0, k1, k2, k3⟩ := tmX5_copy N (tm_sh (tm_sh d 30) (2 + 3 * nx)) (tm_sh d 1)
  have hcc : c' = c := Option.some.inj (k0.symm.trans p1)
  subst hcc
  have cell : ∀ m x, m < 4 → x < 3 → tm_sh (tm_ins d 30 14 t) (32 + 3 * m) x = t (2 + 3 * m + x) := fun m x hm hx => by
    show tm_ins d 30 14 t (x + (32 + 3 * m)) = _
    rw [show x + (32 + 3 * m) = 30 + (2 + 3 * m + x) by omega]
    exact tm_inE (by omega)
  have old : ∀ m, m < 4 → m ≠ nx → ∀ f, tm_sim (tm_sh d (32 + 3 * m)) f → ∀ f', (∀ k, k < 53 → f' k = f k) → tm_sim (tm_sh (tm_ins d 30 14 t) (32 + 3 * m)) f' := fun m hm hne f hs f' hf => by
    have ce : ∀ x, x < 3 → tm_sh (tm_ins d 30 14 t) (32 + 3 * m) x = tm_sh d (32 + 3 * m) x := fun x hx => by
      rw [cell m x hm hx, p6 _ (by omega) (by omega)]
      show d (2 + 3 * m + x + 30) = d (x + (32 + 3 * m))
      congr 1
      omega
    exact tm_sim_c hs (ce 0 (by omega)) (ce 1 (by omega)) (ce 2 (by omega)) hf
  have new : ∀ f, (∀ k, k < 53 → f k = e 1 k) → tm_sim (tm_sh (tm_ins d 30 14 t) (32 + 3 * nx)) f := fun f hf => by
    have ce : ∀ x, x < 3 → tm_sh (tm_ins d 30 14 t) (32 + 3 * nx) x = c' x := fun x hx => by
      rw [cell nx x a1 hx, p5 x hx]
    exact ⟨n, own, par, dep, W, H, pad, md, h.1, tm_stX_c (tm_stX_k h.1.1.2.1 h.2.1 k1 k2 k3) (ce 0 (by omega)) (ce 1 (by omega)) (ce 2 (by omega)), tm_stR_c h.1.1.2.1 h.2.2.1 hf⟩
  have i30 : tm_ins d 30 14 t 30 = t 0 := tm_inE (o := 30) (x := 0) (by omega)
  refine ⟨t, e1, p2, q1, ⟨(nx + 1) % 4, if ct < 4 then ct + 1 else 4, Nat.mod_lt _ (by decide), by split <;> omega, by rw [i30]; exact p3, by rw [i30]; exact p4, q3, fun j hj => ?_⟩, fun c hc => tm_inN (by omega), q2⟩
  by_cases hc : ct < 4
  · simp only [if_pos hc] at hj q4 q5 ⊢
    by_cases ej : j = ct
    · subst ej
      rw [show ((nx + 1) % 4 + 4 - (j + 1) + j) % 4 = nx by omega]
      exact new _ (fun k hk => q5 k hk)
    · rw [show ((nx + 1) % 4 + 4 - (ct + 1) + j) % 4 = (nx + 4 - ct + j) % 4 by omega]
      exact old _ (Nat.mod_lt _ (by decide)) (by omega) _ (a6 j (by omega)) _ (fun k hk => q4 j k hk (by omega))
  · have hc4 : ct = 4 := by omega
    simp only [if_neg hc] at hj q4 q5 ⊢
    by_cases ej : j = 3
    · subst ej
      rw [show ((nx + 1) % 4 + 4 - 4 + 3) % 4 = nx by omega]
      exact new _ (fun k hk => q5 k hk)
    · rw [show ((nx + 1) % 4 + 4 - 4 + j) % 4 = (nx + 4 - ct + (j + 1)) % 4 by omega]
      exact old _ (Nat.mod_lt _ (by decide)) (by omega) _ (a6 (j + 1) (by omega)) _ (fun k hk => q4 j k hk (by omega))
def tm_popf (N : Nat) (q s : tm_M) : Option (tm_M × tm_M) := if (q 0 1) = 0 then ((fX5_copyFrom N s (tm_sh q 2)).bind fun t => (some (q, t))) else (if (q 0 1) = 1 then ((fX5_copyFrom N s (tm_sh q 5)).bind fun t => (some (q, t))) else (if (q 0 1) = 2 then ((fX5_copyFrom N s (tm_sh q 8)).bind fun t => (some (q, t))) else (if (q 0 1) = 3 then ((fX5_copyFrom N s (tm_sh q 11)).bind fun t => (some (q, t))) else (none))))
theorem tm_pop_e (N : Nat) (P s : tm_M) : fX6_popInto N P s = if (P 0 2) ≤ 0 then some (P, s) else (if (P 0 1) ≤ 0 then tm_popf N (tm_upk (tm_upk P 0 1 3) 0 2 (((tm_upk P 0 1 3) 0 2) - 1)) s else tm_popf N (tm_upk (tm_upk P 0 1 ((P 0 1) - 1)) 0 2 (((tm_upk P 0 1 ((P 0 1) - 1)) 0 2) - 1)) s) := rfl
theorem tm_popf_ok (N : Nat) {q s : tm_M} {m : Nat} (hm : m < 4) (h1 : q 0 1 = nI m) : ∃ c, tm_popf N q s = some (q, c) ∧ fX5_copyFrom N s (tm_sh q (2 + 3 * m)) = some c := by
  obtain ⟨c, c1, _⟩ := tmX5_copy N s (tm_sh q (2 + 3 * m))
  refine ⟨c, ?_, c1⟩
  simp only [tm_popf]
  rw [h1]
  rcases (show m = 0 ∨ m = 1 ∨ m = 2 ∨ m = 3 by omega) with rfl | rfl | rfl | rfl
  · rw [if_pos (show nI 0 = 0 from by decide +kernel)]
    rw [show fX5_copyFrom N s (tm_sh q 2) = some c from c1]
    rfl
  · rw [if_neg (show ¬ nI 1 = 0 from by decide +kernel), if_pos (show nI 1 = 1 from by decide +kernel)]
    rw [show fX5_copyFrom N s (tm_sh q 5) = some c from c1]
    rfl
  · rw [if_neg (show ¬ nI 2 = 0 from by decide +kernel), if_neg (show ¬ nI 2 = 1 from by decide +kernel), if_pos (show nI 2 = 2 from by decide +kernel)]
    rw [show fX5_copyFrom N s (tm_sh q 8) = some c from c1]
    rfl
  · rw [if_neg (show ¬ nI 3 = 0 from by decide +kernel), if_neg (show ¬ nI 3 = 1 from by decide +kernel), if_neg (show ¬ nI 3 = 2 from by decide +kernel), if_pos (show nI 3 = 3 from by decide +kernel)]
    rw [show fX5_copyFrom N s (tm_sh q 11) = some c from c1]
    rfl
theorem tmX6_pop (N : Nat) {P s : tm_M} {nx ct : Nat} (hnx : nx < 4) (hct : ct < 4) (h1 : P 0 1 = nI nx) (h2 : P 0 2 = nI (ct + 1)) : ∃ t c, fX6_popInto N P s = some (t, c) ∧ fX5_copyFrom N s (tm_sh t (2 + 3 * ((nx + 3) % 4))) = some c ∧ t 0 1 = nI ((nx + 3) % 4) ∧ t 0 2 = nI ct ∧ (∀ x, x ≠ 0 → t x = P x) := by
  rw [tm_pop_e, h2, if_neg (nI_nle (by omega) (by omega)), h1]
  by_cases hx : nx = 0
  · subst hx
    rw [if_pos (show nI 0 ≤ 0 from by decide +kernel)]
    generalize hq : tm_upk (tm_upk P 0 1 3) 0 2 (tm_upk P 0 1 3 0 2 - 1) = q
    have q1 : q 0 1 = nI 3 := by rw [← hq, tm_ukF (show 1 ≠ 2 by decide), tm_ukE]; rfl
    have q2 : q 0 2 = nI ct := by rw [← hq, tm_ukE, tm_ukF (show 2 ≠ 1 by decide), h2]; exact nI_pred ct
    obtain ⟨c, c1, c2⟩ := tm_popf_ok N (s := s) (show 3 < 4 by decide) q1
    exact ⟨q, c, c1, c2, q1, q2, fun x hx => by rw [← hq, tm_ukN hx, tm_ukN hx]⟩
  · rw [if_neg (nI_nle (by omega) (by omega)), show nI nx - 1 = nI (nx - 1) from pk_sub (b := 1) (by omega)]
    generalize hq : tm_upk (tm_upk P 0 1 (nI (nx - 1))) 0 2 (tm_upk P 0 1 (nI (nx - 1)) 0 2 - 1) = q
    have q1 : q 0 1 = nI (nx - 1) := by rw [← hq, tm_ukF (show 1 ≠ 2 by decide), tm_ukE]
    have q2 : q 0 2 = nI ct := by rw [← hq, tm_ukE, tm_ukF (show 2 ≠ 1 by decide), h2]; exact nI_pred ct
    obtain ⟨c, c1, c2⟩ := tm_popf_ok N (s := s) (show nx - 1 < 4 by omega) q1
    rw [show (nx + 3) % 4 = nx - 1 by omega]
    exact ⟨q, c, c1, c2, q1, q2, fun x hx => by rw [← hq, tm_ukN hx, tm_ukN hx]⟩
theorem tmX8_u26 {N : Nat} (hN : 300 ≤ N) {ct : Nat} (hct : ct < 4) (h : e 0 2 = nI ct) : ∃ w, tm_whl (bX8_undo_26 N) N (nI 0, e) = some w ∧ (∀ c, c ≠ 1 → w.2 c = e c) ∧ ∀ m, m < 53 → w.2 1 m = e 2 (53 * ct + m) := by
  refine tm_fI (I := fun k st => st.1 = nI k ∧ (∀ c, c ≠ 1 → st.2 c = e c) ∧ ∀ m, m < k → st.2 1 m = e 2 (53 * ct + m)) 0 53 (by omega) ?_ ?_ (by omega) ⟨rfl, fun c _ => rfl, fun m hm => by omega⟩
  · rintro k ⟨u, Q⟩ _ hk ⟨hu, q1, q2⟩
    simp only at hu q1 q2
    subst hu
    simp only [bX8_undo_26]
    rw [if_neg (show ¬ (53 : Int32) ≤ nI k from nI_ge (b := 53) hk (by decide)), q1 0 (by decide), h, tm_53, tm_gT (tm_inbN (show 53 * ct + k < 212 by omega) (by decide)), tm_gT (tm_inbN hk (by decide)), nI_clamp (show 53 * ct + k < 2 ^ 31 by omega), nI_clamp (show k < 2 ^ 31 by omega), q1 2 (by decide), nI_1]
    refine ⟨_, rfl, rfl, fun c hc => ?_, fun m hm => ?_⟩
    · simp only
      rw [tm_ucN hc]
      exact q1 c hc
    · simp only
      rw [tm_ucE]
      by_cases em : m = k
      · rw [em, pk_us]
      · rw [pk_un em]
        exact q2 m (by omega)
  · rintro ⟨u, Q⟩ ⟨hu, q1, q2⟩
    simp only at hu q1 q2
    subst hu
    simp only [bX8_undo_26]
    rw [if_pos (show (53 : Int32) ≤ nI 53 from nI_le (a := 53) (Nat.le_refl _) (by decide))]
    exact ⟨_, rfl, q1, q2⟩
