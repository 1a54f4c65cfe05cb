/-! the reference: the whole layout -/
def tm_laidM (e : tm_M) (n : Nat) (own par dep : Nat → Nat) (r : Nat → tm_R) (hb : Nat → Bool) : Prop := ∀ i, i < n → e 11 i = nI (tm_sz n own par dep i) ∧ e 10 i = (if hb i = true then 1 else 0) ∧ tm_at4 (e 6) (e 7) (e 8) (e 9) i (r i)
def tm_dn (dep : Nat → Nat) (v i p : Nat) : Prop := dep p < v ∨ (dep p = v ∧ p < i)
/-- the reference's layout so far -/
def tm_lyI (e0 : tm_M) (n : Nat) (own par dep : Nat → Nat) (W H pad md : Nat) (D : Nat → Prop) (Q : tm_M) : Prop :=
  (∀ c, c = 1 ∨ c = 2 ∨ c = 3 ∨ c = 11 ∨ 15 ≤ c → Q c = e0 c) ∧ (∀ k, k ≠ 13 → Q 0 k = e0 0 k) ∧ ∃ r hb, r 0 = (0, 0, W, H) ∧ hb 0 = false ∧ (∀ p, p < n → D p → tm_rec1 pad md (dep p) (tm_cc par p n) (tm_kd par p n) (tm_sz n own par dep) (r p) r hb) ∧ (∀ i, i < n → (i = 0 ∨ D (par i)) → (Q 10 i = (if hb i = true then 1 else 0) ∧ tm_at4 (Q 6) (Q 7) (Q 8) (Q 9) i (r i) ∧ tm_in (r i) W H ∧ (hb i = true → r i = (0, 0, 0, 0))))
theorem tm_lyI_c {e0 : tm_M} {n : Nat} {own par dep : Nat → Nat} {W H pad md : Nat} {D D' : Nat → Prop} {Q : tm_M} (ht : tm_tree n par dep) (h : tm_lyI e0 n own par dep W H pad md D Q) (hD : ∀ p, p < n → (D' p → D p)) : tm_lyI e0 n own par dep W H pad md D' Q := by
  obtain ⟨q1, q2, r, hb, r0, hb0, q3, q4⟩ := h
  refine ⟨q1, q2, r, hb, r0, hb0, fun p hp hd => q3 p hp (hD p hp hd), fun i hi hpl => q4 i hi ?_⟩
  by_cases hi0 : i = 0
  · exact Or.inl hi0
  · rcases hpl with h | h
    · exact absurd h hi0
    · exact Or.inr (hD _ (ht.2.2.2 i hi0 hi).1 h)
theorem tmX8_ly1 {N : Nat} (hN : 300 ≤ N) {e0 : tm_M} {g0 : Int64} {n W H pad md v i : Nat} {own par dep : Nat → Nat} (hv : tm_stv n own par dep W H pad md) (hs : tm_stM e0 n own par W H pad md) (hsz : ∀ i, i < n → e0 11 i = nI (tm_sz n own par dep i)) (hi : i < n) (hvi : dep i = v) (hm0 : tm_cc par i n ≠ 0) {Q : tm_M} (h : tm_lyI e0 n own par dep W H pad md (tm_dn dep v i) Q) :
    ∃ Q', fX8_laysUnder N Q g0 (nI i) (nI v) = some Q' ∧ tm_lyI e0 n own par dep W H pad md (tm_dn dep v (i + 1)) Q' := by
  have hv0 := hv
  obtain ⟨ht, hown, hW, hH, hpl, hmd⟩ := hv
  obtain ⟨q1, q2, r, hb, r0, hb0, q3, q4⟩ := h
  subst hvi
  obtain ⟨p1, p2, p3, p4⟩ := q4 i hi (by
    by_cases hi0 : i = 0
    · exact Or.inl hi0
    · right
      left
      have := (ht.2.2.2 i hi0 hi).2
      omega)
  have hsQ : tm_stM Q n own par W H pad md := by
    unfold tm_stM
    rw [q1 1 (by omega)]
    exact hs
  obtain ⟨Q', g1, g2, g3, g4, g5⟩ := tmX8_under (g0 := g0) hN hv0 hsQ (fun j hj => by rw [q1 11 (by omega)]; exact hsz j hj) hi hm0 p2 (by have := p3.1; omega) (by have := p3.2; omega) p1 p4
  obtain ⟨r', hb', h1, h2, h3⟩ := g5 r hb
  have hnk : ∀ p, p < n → dep p ≤ dep i → ∀ j, j < tm_cc par i n → tm_kd par i n j ≠ p := by
    intro p hp hd j hj ee
    obtain ⟨k1, k2, k3, k4⟩ := tm_kd_in n j hj
    have := (ht.2.2.2 _ k2 k1).2
    rw [k3, ee] at this
    omega
  refine ⟨Q', g1, fun c hc => by rw [g2 c hc]; exact q1 c hc, fun k hk => by rw [g3 k hk]; exact q2 k hk, r', hb', ?_, ?_, ?_, ?_⟩
  · rw [(h1 0 (fun j hj => (tm_kd_in n j hj).2.1)).1]
    exact r0
  · rw [(h1 0 (fun j hj => (tm_kd_in n j hj).2.1)).2]
    exact hb0
  · intro p hp hd
    have hdp : dep p ≤ dep i := by
      rcases hd with h | h <;> omega
    rw [(h1 p (hnk p hp hdp)).1]
    by_cases ep : p = i
    · subst ep
      exact h3
    · have hold : tm_dn dep (dep i) i p := by
        rcases hd with h | ⟨h, h'⟩
        · exact Or.inl h
        · exact Or.inr ⟨h, by omega⟩
      refine tm_rec1_c (q3 p hp hold) (fun j hj => h1 _ (fun j' hj' ee => ?_))
      have k3 := (tm_kd_in n j hj).2.2.1
      have k3' := (tm_kd_in n j' hj').2.2.1
      rw [ee, k3] at k3'
      exact ep k3'
  · intro c hc hplc
    by_cases hkid : ∃ j, j < tm_cc par i n ∧ tm_kd par i n j = c
    · obtain ⟨j, hj, ej⟩ := hkid
      obtain ⟨m1, m2⟩ := h2 j hj
      rw [ej] at m1 m2
      refine ⟨m2, m1, ?_⟩
      by_cases hz : (r i).2.2.1 ≤ 2 * pad ∨ (r i).2.2.2 ≤ 2 * pad
      · have := (h3.1 hz j hj).1
        rw [ej] at this
        rw [this]
        exact ⟨⟨Nat.zero_le _, Nat.zero_le _⟩, fun _ => rfl⟩
      · have := tm_plc_in (h3.2 hz).2 (fun j hj => tm_sz_pos ht (fun i hi => (hown i hi).1) _ _ (tm_kd_in n j hj).1 (Nat.le_refl _)) hj
        have hbf := (h3.2 hz).1 j hj
        rw [ej] at this hbf
        exact ⟨tm_in_w this (by have := p3.1; omega) (by have := p3.2; omega), fun q => by rw [hbf] at q; exact absurd q (by decide)⟩
    · have hnot : ∀ j, j < tm_cc par i n → tm_kd par i n j ≠ c := fun j hj ee => hkid ⟨j, hj, ee⟩
      have hold : c = 0 ∨ tm_dn dep (dep i) i (par c) := by
        by_cases hc0 : c = 0
        · exact Or.inl hc0
        · rcases hplc with h | h
          · exact absurd h hc0
          · right
            rcases h with h | ⟨h, h'⟩
            · exact Or.inl h
            · by_cases e : par c = i
              · obtain ⟨c1, c2⟩ := tm_kd_at n c hc hc0 e
                exact absurd c2 (hnot _ c1)
              · exact Or.inr ⟨h, by omega⟩
      obtain ⟨m1, m2, m3, m4⟩ := q4 c hc hold
      obtain ⟨f1, f2, f3, f4, f5⟩ := g4 c hnot
      obtain ⟨v1, v2⟩ := h1 c hnot
      rw [v1, v2]
      refine ⟨by rw [f1]; exact m1, ?_, m3, m4⟩
      simp only [tm_at4] at m2 ⊢
      rw [f2, f3, f4, f5]
      exact m2
