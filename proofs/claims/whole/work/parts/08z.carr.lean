/-! the class: the whole layout -/
theorem tm_rec1_c {pad md dp m : Nat} {kd S : Nat → Nat} {rp : tm_R} {r r' : Nat → tm_R} {hb hb' : Nat → Bool} (h : tm_rec1 pad md dp m kd S rp r hb) (he : ∀ j, j < m → r' (kd j) = r (kd j) ∧ hb' (kd j) = hb (kd j)) : tm_rec1 pad md dp m kd S rp r' hb' := by
  refine ⟨fun hz j hj => ?_, fun hz => ⟨fun j hj => ?_, fun e j hj => ?_, fun e j hj => ?_, fun e e' j hj => ?_⟩⟩
  · rw [(he j hj).1, (he j hj).2]
    exact h.1 hz j hj
  · rw [(he j hj).2]
    exact (h.2 hz).1 j hj
  · rw [(he j hj).1]
    exact (h.2 hz).2.1 e j hj
  · rw [(he j hj).1]
    exact (h.2 hz).2.2.1 e j hj
  · rw [(he _ ((tm_is_ok (S := S) (f := kd) (m := m) m (Nat.le_refl m)).1 j hj)).1]
    exact (h.2 hz).2.2.2 e e' j hj
/-- a state: its numbers, in range -/
def tm_stv (n : Nat) (own par dep : Nat → Nat) (W H pad md : Nat) : Prop := tm_tree n par dep ∧ (∀ i, i < n → 1 ≤ own i ∧ own i ≤ 99) ∧ (1 ≤ W ∧ W ≤ 200) ∧ (1 ≤ H ∧ H ≤ 200) ∧ pad ≤ 3 ∧ md ≤ 2
/-- the class's State holds it -/
def tm_stX (s : tm_M) (n : Nat) (own par : Nat → Nat) (W H pad md : Nat) : Prop := s 0 2 = nI n ∧ s 0 3 = nI W ∧ s 0 4 = nI H ∧ s 0 5 = nI pad ∧ s 0 6 = nI md ∧ (∀ i, i < n → s 1 i = nI (own i)) ∧ (∀ i, i ≠ 0 → i < n → s 2 i = nI (par i)) ∧ s 2 0 = -1
/-- the class's Layout holds the layout of it -/
def tm_laid (d : tm_M) (n : Nat) (own par dep : Nat → Nat) (r : Nat → tm_R) (hb : Nat → Bool) : Prop := ∀ i, i < n → d 1 i = nI (tm_sz n own par dep i) ∧ d 2 i = nI (dep i) ∧ d 11 i = nI (tm_cc par i n) ∧ d 3 i = (if hb i = true then 1 else 0) ∧ tm_at4 (d 5) (d 6) (d 7) (d 8) i (r i)
theorem tmX1_arr {N : Nat} (hN : 300 ≤ N) {d s : tm_M} {n W H pad md : Nat} {own par dep : Nat → Nat} (hv : tm_stv n own par dep W H pad md) (hs : tm_stX s n own par W H pad md) :
    ∃ d' r hb, fX1_arrange N d s = some d' ∧ tm_rec n par dep W H pad md (tm_sz n own par dep) r hb ∧ tm_laid d' n own par dep r hb := by
  obtain ⟨ht, hown, hW, hH, hpad, hmd⟩ := hv
  obtain ⟨s1, s2, s3, s4, s5, s6, s7, s8⟩ := hs
  have hn1 := ht.1
  have hn24 := ht.2.1
  obtain ⟨d1, o, ft, a1, a2, hI, a4⟩ := tmX1_order (d := d) hN ht s1 s7
  obtain ⟨d2, b1, b2, b3⟩ := tmX1_sizes hN ht s1 s6 hI (fun j hj => ⟨(a4 j hj).1, (a4 j hj).2.2.1, (a4 j hj).2.2.2⟩)
  obtain ⟨R, c1, c2, c3, c4⟩ := tmX3_put (N := N) (d := tm_sh d2 4) (i := 0) (by decide) 0 0 (nI W) (nI H)
  generalize hD : tm_upc (tm_ins d2 4 5 R) 3 (upd ((tm_ins d2 4 5 R) 3) 0 0) = D
  have hall := fun i (hi : i < n) => tm_ord_all ht hI (dep i) i hi rfl
  obtain ⟨i1, i2, i3, i4, i5, i6, i7⟩ := hI
  have hDc : ∀ c, c = 1 ∨ c = 2 ∨ c = 9 ∨ c = 10 ∨ c = 11 → D c = d2 c := fun c hc => by
    rw [← hD, tm_ucN (by omega), tm_inN (by omega)]
  have hnk : ∀ t k, t ≤ k → k < n → ∀ j, j < tm_cc par (o k) n → tm_kd par (o k) n j ≠ o t := by
    intro t k htk hk j hj e
    obtain ⟨k1, k2, k3, k4⟩ := tm_kd_in n j hj
    rw [e] at k2 k3
    have ht0 : t ≠ 0 := fun q => by rw [q] at k2; exact k2 i3
    obtain ⟨t', t1, t2, t3, t4⟩ := i7 t (by omega) (by omega)
    rw [k3] at t3
    have := i5 k t' hk (by omega) t3
    omega
  have hl : ∃ w, tm_whl (bX1_arrange_37 N s) N (nI 0, D) = some w ∧ ∃ r hb, tm_rec n par dep W H pad md (tm_sz n own par dep) r hb ∧ tm_laid w.2 n own par dep r hb := by
    refine tm_fI (I := fun k st => st.1 = nI k ∧ (∀ c, c = 1 ∨ c = 2 ∨ c = 9 ∨ c = 10 ∨ c = 11 → st.2 c = d2 c) ∧ ∃ r hb, r 0 = (0, 0, W, H) ∧ hb 0 = false ∧ (∀ t, t < k → tm_rec1 pad md (dep (o t)) (tm_cc par (o t) n) (tm_kd par (o t) n) (tm_sz n own par dep) (r (o t)) r hb) ∧ (∀ i, i < n → (i = 0 ∨ ∃ t, t < k ∧ par i = o t) → (st.2 3 i = (if hb i = true then 1 else 0) ∧ tm_at4 (st.2 5) (st.2 6) (st.2 7) (st.2 8) i (r i) ∧ tm_in (r i) W H))) 0 n (by omega) ?_ ?_ (by omega) ⟨rfl, hDc, fun _ => (0, 0, W, H), fun _ => false, rfl, rfl, fun t h => by omega, ?_⟩
    · rintro k ⟨u, Q⟩ _ hkn ⟨hu, q1, r, hb, r0, hb0, q2, q3⟩
      simp only at hu q1 q3
      subst hu
      have hx : o k < n := i4 k hkn
      obtain ⟨e1, e2, e3, e4⟩ := a4 k hkn
      obtain ⟨f1, f2, f3⟩ := i6 k hkn
      have hcl := tm_cc_le (par := par) (p := o k) n
      obtain ⟨p1, p2, p3⟩ := q3 (o k) hx (by
        by_cases hk0 : k = 0
        · left; rw [hk0]; exact i3
        · right
          obtain ⟨t, t1, t2, t3, t4⟩ := i7 k (by omega) hkn
          exact ⟨t, t2, t3⟩)
      have hb2 : ∀ c, c ≠ 1 → d2 c = d1 c := b2
      obtain ⟨Q', g1, g2, g3, g4⟩ := tmX1_place (d := Q) (s := s) (p := o k) (f := ft k) (m := tm_cc par (o k) n) (kd := tm_kd par (o k) n) (S := tm_sz n own par dep) (dp := dep (o k)) hN (by omega) s4 hpad s5 (by omega) (by rw [q1 10 (by omega), b2 10 (by decide)]; exact e3) (by rw [q1 11 (by omega), b2 11 (by decide)]; exact e4) (by omega) (by rw [q1 2 (by omega), b2 2 (by decide)]; exact e2) (by have := tm_dep_lt ht hx; omega) (fun j hj => ⟨by rw [q1 9 (by omega), b2 9 (by decide), (a4 (ft k + j) (by omega)).1, f3 j hj], by rw [q1 1 (by omega)]; exact b3 _ (tm_kd_in n j hj).1⟩) (fun j hj => by have := tm_sz_le ht (fun i hi => (hown i hi).2) (tm_kd par (o k) n j); omega) (fun hm => tm_ok_kids ht hown hx hm) p2 (by have := p3.1; omega) (by have := p3.2; omega)
      obtain ⟨r', hb', h1, h2, h3⟩ := g4 r hb
      simp only [bX1_arrange_37]
      rw [s1, if_neg (by rw [nI_leI (by omega) (by omega)]; omega), tm_gT (tm_inbN (show k < 24 by omega) (by decide)), nI_clamp (show k < 2 ^ 31 by omega), q1 9 (by omega), b2 9 (by decide), e1, g1]
      simp only [Option.bind_some, tm_nm, nI_1]
      have hk0 := h1 0 (fun j hj => (tm_kd_in n j hj).2.1)
      have hkt := fun t (htk : t ≤ k) => h1 (o t) (hnk t k htk hkn)
      refine ⟨_, rfl, rfl, fun c hc => by simp only; rw [g2 c (by omega)]; exact q1 c hc, r', hb', ?_, ?_, ?_, ?_⟩
      · rw [hk0.1]; exact r0
      · rw [hk0.2]; exact hb0
      · intro t htk
        by_cases e : t = k
        · subst e
          rw [(hkt t (Nat.le_refl _)).1]
          exact h3
        · rw [(hkt t (by omega)).1]
          refine tm_rec1_c (q2 t (by omega)) (fun j hj => ?_)
          refine h1 _ (fun j' hj' ee => ?_)
          have k3 := (tm_kd_in n j hj).2.2.1
          have k3' := (tm_kd_in n j' hj').2.2.1
          rw [ee, k3] at k3'
          exact e (i5 t k (by omega) hkn k3')
      · intro i hi hpl
        simp only
        by_cases hkid : ∃ j, j < tm_cc par (o k) n ∧ tm_kd par (o k) n j = i
        · obtain ⟨j, hj, ej⟩ := hkid
          obtain ⟨m1, m2⟩ := h2 j hj
          rw [ej] at m1 m2
          refine ⟨m2, m1, ?_⟩
          by_cases hz : (r (o k)).2.2.1 ≤ 2 * pad ∨ (r (o k)).2.2.2 ≤ 2 * pad
          · have := (h3.1 hz j hj).1
            rw [ej] at this
            rw [this]
            exact ⟨Nat.zero_le _, Nat.zero_le _⟩
          · have := tm_plc_in (h3.2 hz).2 (fun j hj => tm_sz_pos ht (fun i hi => (hown i hi).1) _ _ (tm_kd_in n j hj).1 (Nat.le_refl _)) hj
            rw [ej] at this
            exact tm_in_w this (by have := p3.1; omega) (by have := p3.2; omega)
        · have hnot : ∀ j, j < tm_cc par (o k) n → tm_kd par (o k) n j ≠ i := fun j hj e => hkid ⟨j, hj, e⟩
          have hold : i = 0 ∨ ∃ t, t < k ∧ par i = o t := by
            rcases hpl with h | ⟨t, t1, t2⟩
            · exact Or.inl h
            · by_cases hi0 : i = 0
              · exact Or.inl hi0
              · by_cases e : t = k
                · subst e
                  obtain ⟨c1, c2⟩ := tm_kd_at n i hi hi0 t2
                  exact absurd c2 (hnot _ c1)
                · exact Or.inr ⟨t, by omega, t2⟩
          obtain ⟨m1, m2, m3⟩ := q3 i hi hold
          obtain ⟨g31, g32, g33, g34, g35⟩ := g3 i hnot
          obtain ⟨v1, v2⟩ := h1 i hnot
          rw [v1, v2]
          refine ⟨by rw [g31]; exact m1, ?_, m3⟩
          simp only [tm_at4] at m2 ⊢
          rw [g32, g33, g34, g35]
          exact m2
    · rintro ⟨u, Q⟩ ⟨hu, q1, r, hb, r0, hb0, q2, q3⟩
      simp only at hu q1 q3
      subst hu
      simp only [bX1_arrange_37]
      rw [s1, if_pos (nI_le (Nat.le_refl _) (by omega))]
      refine ⟨_, rfl, r, hb, ⟨r0, hb0, ?_⟩, ?_⟩
      · intro p hp
        obtain ⟨t, t1, t2⟩ := hall p hp
        rw [← t2]
        exact q2 t t1
      · intro i hi
        obtain ⟨m1, m2, m3⟩ := q3 i hi (by
          by_cases hi0 : i = 0
          · exact Or.inl hi0
          · obtain ⟨t, t1, t2⟩ := hall (par i) (ht.2.2.2 i hi0 hi).1
            exact Or.inr ⟨t, t1, t2.symm⟩)
        obtain ⟨t, t1, t2⟩ := hall i hi
        obtain ⟨e1, e2, e3, e4⟩ := a4 t t1
        rw [t2] at e2 e4
        refine ⟨?_, ?_, ?_, m1, m2⟩
        · simp only
          rw [q1 1 (by omega)]
          exact b3 i hi
        · simp only
          rw [q1 2 (by omega), b2 2 (by decide)]
          exact e2
        · simp only
          rw [q1 11 (by omega), b2 11 (by decide)]
          exact e4
    · intro i hi hpl
      have hi0 : i = 0 := by
        rcases hpl with h | ⟨t, t1, t2⟩
        · exact h
        · omega
      subst hi0
      simp only
      refine ⟨?_, ⟨?_, ?_, ?_, ?_⟩, ⟨by simp only; omega, by simp only; omega⟩⟩
      · rw [← hD, tm_ucE, pk_us]
        rfl
      · rw [← hD, tm_ucN (by decide)]
        exact c2.1
      · rw [← hD, tm_ucN (by decide)]
        exact c2.2.1
      · rw [← hD, tm_ucN (by decide)]
        exact c2.2.2.1
      · rw [← hD, tm_ucN (by decide)]
        exact c2.2.2.2
  obtain ⟨w, w1, r, hb, w2, w3⟩ := hl
  refine ⟨w.2, r, hb, ?_, w2, w3⟩
  simp only [fX1_arrange, a1, Option.bind_some, b1, s2, s3]
  rw [show (0 : Int32) = nI 0 from rfl] at c1 ⊢
  rw [c1]
  simp only [Option.bind_some, tm_nm]
  rw [show vp_nar .boolean (nI 0) = 0 from by decide, nI_clamp (show 0 < 2 ^ 31 by decide), hD, w1]
  rfl
