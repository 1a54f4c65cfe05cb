theorem tmX8_ly {N : Nat} (hN : 300 ≤ N) {e : tm_M} {g0 : Int64} {n W H pad md : Nat} {own par dep : Nat → Nat} (hv : tm_stv n own par dep W H pad md) (hs : tm_stM e n own par W H pad md) :
    ∃ e' r hb, fX8_lays N e g0 = some e' ∧ tm_rec n par dep W H pad md (tm_sz n own par dep) r hb ∧ tm_laidM e' n own par dep r hb ∧ (∀ c, c = 1 ∨ c = 2 ∨ c = 3 ∨ 15 ≤ c → e' c = e c) ∧ (∀ k, k ≠ 13 → e' 0 k = e 0 k) := by
  have hv0 := hv
  have hs0 := hs
  obtain ⟨ht, hown, hW, hH, hpl, hmd⟩ := hv
  obtain ⟨s1, s2, s3, s4, s5, s6, s7, s8⟩ := hs
  have hn1 := ht.1
  have hn24 := ht.2.1
  -- the sizes
  have hl1 : ∃ w, tm_whl (bX8_lays_2 N g0) N (nI 0, e) = some w ∧ ((∀ c, c ≠ 11 → w.2 c = e c) ∧ ∀ i, i < n → w.2 11 i = nI (tm_sz n own par dep i)) := by
    refine tm_fI (I := fun k st => st.1 = nI k ∧ (∀ c, c ≠ 11 → st.2 c = e c) ∧ ∀ i, i < k → st.2 11 i = nI (tm_sz n own par dep i)) 0 n (by omega) ?_ ?_ (by omega) ⟨rfl, fun c _ => rfl, fun i hi => by omega⟩
    · rintro k ⟨u, Q⟩ _ hkn ⟨hu, q1, q2⟩
      simp only at hu q1 q2
      subst hu
      have Q1 : Q 1 = e 1 := q1 1 (by omega)
      have hz := tmX8_sz (e := Q) (g0 := g0) (own := own) (p := k) hN ht (by rw [Q1]; exact s1) (by rw [Q1]; exact s6) (by rw [Q1]; exact s7) (by rw [Q1]; exact s8) (by omega)
      simp only [bX8_lays_2]
      rw [show (0 : Int32).toNatClampNeg = 0 from rfl, Q1, s1, if_neg (by rw [nI_leI (by omega) (by omega)]; omega), hz]
      simp only [Option.bind_some, tm_nm]
      rw [tm_gT (tm_inbN (by omega) (by decide)), nI_clamp (by omega), nI_1]
      refine ⟨_, rfl, rfl, fun c hc => by simp only; rw [tm_ucN hc]; exact q1 c hc, fun i hi => ?_⟩
      simp only
      rw [tm_ucE]
      by_cases ei : i = k
      · rw [ei, pk_us]
      · rw [pk_un ei]
        exact q2 i (by omega)
    · rintro ⟨u, Q⟩ ⟨hu, q1, q2⟩
      simp only at hu q1 q2
      subst hu
      simp only [bX8_lays_2]
      rw [show (0 : Int32).toNatClampNeg = 0 from rfl, q1 1 (by omega), s1, if_pos (nI_le (Nat.le_refl _) (by omega))]
      exact ⟨_, rfl, q1, q2⟩
  obtain ⟨w, w1, w2, w3⟩ := hl1
  obtain ⟨Z, z1, z2, z3, z4⟩ := tmX8_puts (N := N) (d := w.2) (g0 := g0) (i := 0) (by decide) 0 0 (nI W) (nI H)
  generalize hE : tm_upc Z 10 (upd (Z 10) 0 0) = E
  have hEc : ∀ c, c < 6 ∨ 12 ≤ c → E c = e c := fun c hc => by rw [← hE, tm_ucN (by omega), z4 c (by omega), w2 c (by omega)]
  have hE11 : ∀ i, i < n → E 11 i = nI (tm_sz n own par dep i) := fun i hi => by rw [← hE, tm_ucN (by omega), z4 11 (by omega)]; exact w3 i hi
  have hsE : tm_stM E n own par W H pad md := by
    unfold tm_stM
    rw [hEc 1 (by omega)]
    exact hs0
  have hI0 : tm_lyI E n own par dep W H pad md (tm_dn dep 0 0) E := by
    refine ⟨fun c _ => rfl, fun k _ => rfl, fun _ => (0, 0, W, H), fun _ => false, rfl, rfl, fun p _ hd => ?_, fun i hi hpl => ?_⟩
    · rcases hd with h | h <;> omega
    · have hi0 : i = 0 := by
        rcases hpl with h | h | h
        · exact h
        · omega
        · omega
      subst hi0
      refine ⟨?_, ⟨?_, ?_, ?_, ?_⟩, ⟨by simp only; omega, by simp only; omega⟩, fun q => absurd q (by decide)⟩
      · rw [← hE, tm_ucE, pk_us]
        rfl
      · rw [← hE, tm_ucN (by decide)]; exact z2.1
      · rw [← hE, tm_ucN (by decide)]; exact z2.2.1
      · rw [← hE, tm_ucN (by decide)]; exact z2.2.2.1
      · rw [← hE, tm_ucN (by decide)]; exact z2.2.2.2
  -- one depth
  have inner : ∀ v Q, v < 24 → tm_lyI E n own par dep W H pad md (tm_dn dep v 0) Q → ∃ w, tm_whl (bX8_lays_65 N g0 (nI v)) N (nI 0, Q) = some w ∧ tm_lyI E n own par dep W H pad md (tm_dn dep v n) w.2 := by
    intro v Q hv24 hQ
    refine tm_fI (I := fun i st => st.1 = nI i ∧ tm_lyI E n own par dep W H pad md (tm_dn dep v i) st.2) 0 n (by omega) ?_ ?_ (by omega) ⟨rfl, hQ⟩
    · rintro i ⟨u, Q⟩ _ hin ⟨hu, hI⟩
      simp only at hu hI
      subst hu
      have Q1 : Q 1 = E 1 := hI.1 1 (by omega)
      obtain ⟨t1, t2, t3, t4, t5, t6, t7, t8⟩ := hsE
      have hdp := tmX8_dp (e := Q) (g0 := g0) hN ht (by rw [Q1]; exact t7) hin
      have hcm := tmX8_cm (e := Q) (g0 := g0) (p := i) hN ht (by rw [Q1]; exact t1) (by rw [Q1]; exact t7) (by rw [Q1]; exact t8) (by omega)
      have hdl := tm_dep_lt ht hin
      have hcl := tm_cc_le (par := par) (p := i) n
      simp only [bX8_lays_65]
      rw [show (0 : Int32).toNatClampNeg = 0 from rfl, Q1, t1, if_neg (by rw [nI_leI (by omega) (by omega)]; omega), hdp]
      simp only [Option.bind_some]
      by_cases hvi : dep i = v
      · rw [if_pos (by rw [hvi]), hcm]
        simp only [Option.bind_some]
        by_cases hm0 : tm_cc par i n = 0
        · rw [if_pos (by rw [hm0, ← nI_0]; exact nI_le (Nat.le_refl _) (by decide))]
          simp only [tm_nm, nI_1]
          refine ⟨_, rfl, rfl, ?_⟩
          obtain ⟨q1, q2, r, hb, r0, hb0, q3, q4⟩ := hI
          refine ⟨q1, q2, r, hb, r0, hb0, fun p hp hd => ?_, fun c hc hplc => ?_⟩
          · by_cases ep : p = i
            · subst ep
              rw [hm0]
              exact ⟨fun _ j hj => by omega, fun _ => ⟨fun j hj => by omega, fun _ j hj => by omega, fun _ j hj => by omega, fun _ _ j hj => by omega⟩⟩
            · refine q3 p hp ?_
              rcases hd with h | ⟨h, h'⟩
              · exact Or.inl h
              · exact Or.inr ⟨h, by omega⟩
          · refine q4 c hc ?_
            by_cases hc0 : c = 0
            · exact Or.inl hc0
            · rcases hplc with h | h | ⟨h, h'⟩
              · exact absurd h hc0
              · exact Or.inr (Or.inl h)
              · by_cases e : par c = i
                · obtain ⟨c1, c2⟩ := tm_kd_at n c hc hc0 e
                  omega
                · exact Or.inr (Or.inr ⟨h, by omega⟩)
        · obtain ⟨Q', g1, g2⟩ := tmX8_ly1 (g0 := g0) hN hv0 ⟨t1, t2, t3, t4, t5, t6, t7, t8⟩ hE11 hin hvi hm0 hI
          rw [if_neg (nI_nle (by omega) (by omega)), g1]
          simp only [Option.bind_some, tm_nm, nI_1]
          exact ⟨_, rfl, rfl, g2⟩
      · rw [if_neg (by rw [nI_eq (by omega) (by omega)]; exact hvi)]
        simp only [tm_nm, nI_1]
        refine ⟨_, rfl, rfl, tm_lyI_c ht hI (fun p hp hd => ?_)⟩
        rcases hd with h | ⟨h, h'⟩
        · exact Or.inl h
        · refine Or.inr ⟨h, ?_⟩
          have : p ≠ i := fun q => hvi (by rw [← q]; exact h)
          omega
    · rintro ⟨u, Q⟩ ⟨hu, hI⟩
      simp only at hu hI
      subst hu
      simp only [bX8_lays_65]
      rw [show (0 : Int32).toNatClampNeg = 0 from rfl, hI.1 1 (by omega), hsE.1, if_pos (nI_le (Nat.le_refl _) (by omega))]
      exact ⟨_, rfl, hI⟩
  have outer : ∃ w, tm_whl (bX8_lays_57 N g0) N (nI 0, E) = some w ∧ tm_lyI E n own par dep W H pad md (tm_dn dep 24 0) w.2 := by
    refine tm_fI (I := fun v st => st.1 = nI v ∧ tm_lyI E n own par dep W H pad md (tm_dn dep v 0) st.2) 0 24 (by omega) ?_ ?_ (by omega) ⟨rfl, hI0⟩
    · rintro v ⟨u, Q⟩ _ hv24 ⟨hu, hI⟩
      simp only at hu hI
      subst hu
      obtain ⟨w, x1, x2⟩ := inner v Q hv24 hI
      simp only [bX8_lays_57]
      rw [show (24 : Int32) = nI 24 from rfl, if_neg (by rw [nI_leI (by omega) (by omega)]; omega), show (0 : Int32) = nI 0 from rfl, x1]
      simp only [Option.bind_some, tm_nm, nI_1]
      refine ⟨_, rfl, rfl, tm_lyI_c ht x2 (fun p hp hd => ?_)⟩
      rcases hd with h | ⟨h, h'⟩
      · by_cases e : dep p = v
        · exact Or.inr ⟨e, hp⟩
        · exact Or.inl (by omega)
      · omega
    · rintro ⟨u, Q⟩ ⟨hu, hI⟩
      simp only at hu hI
      subst hu
      simp only [bX8_lays_57]
      rw [if_pos (show (24 : Int32) ≤ nI 24 from nI_le (a := 24) (Nat.le_refl _) (by decide))]
      exact ⟨_, rfl, hI⟩
  obtain ⟨v, v1, q1, q2, r, hb, r0, hb0, q3, q4⟩ := outer
  have hdone : ∀ p, p < n → tm_dn dep 24 0 p := fun p hp => Or.inl (by have := tm_dep_lt ht hp; omega)
  refine ⟨v.2, r, hb, ?_, ⟨r0, hb0, fun p hp => q3 p hp (hdone p hp)⟩, ?_, ?_, ?_⟩
  · simp only [fX8_lays]
    rw [show (0 : Int32) = nI 0 from rfl] at z1 ⊢
    rw [w1]
    simp only [Option.bind_some]
    rw [show (1 : Int32).toNatClampNeg = 1 from rfl, show (2 : Int32).toNatClampNeg = 2 from rfl, w2 1 (by omega), s2, s3, z1]
    simp only [Option.bind_some, tm_nm]
    rw [show vp_nar .boolean (nI 0) = 0 from by decide, nI_clamp (show 0 < 2 ^ 31 by decide), hE, v1]
    rfl
  · intro i hi
    obtain ⟨m1, m2, m3, m4⟩ := q4 i hi (by
      by_cases hi0 : i = 0
      · exact Or.inl hi0
      · exact Or.inr (hdone _ (ht.2.2.2 i hi0 hi).1))
    exact ⟨by rw [q1 11 (by omega)]; exact hE11 i hi, m1, m2⟩
  · intro c hc
    rw [q1 c (by omega), hEc c (by omega)]
  · intro k hk
    rw [q2 k hk, hEc 0 (by omega)]
