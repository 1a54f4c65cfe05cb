/-! the class: the children of one node -/
theorem tm_subI {w q : Nat} (hw : w < 2 ^ 30) (hq : q < 2 ^ 30) : (nI w - nI q).toInt = (w : Int) - (q : Int) := by
  rw [Int32.toInt_sub, nI_toInt (by omega), nI_toInt (by omega)]
  apply Int.bmod_eq_of_le <;> omega
theorem tm_inner {w pad : Nat} (hw : w ≤ 200) (hp : pad ≤ 3) : (nI w - 2 * nI pad < 1 ↔ w ≤ 2 * pad) ∧ (1 ≤ nI w - 2 * nI pad ↔ ¬ w ≤ 2 * pad) ∧ (¬ w ≤ 2 * pad → nI w - 2 * nI pad = nI (w - 2 * pad)) := by
  have e : 2 * nI pad = nI (2 * pad) := pk_mul 2 pad
  have h1 := tm_subI (w := w) (q := 2 * pad) (by omega) (by omega)
  rw [e]
  refine ⟨?_, ?_, fun h => pk_sub (by omega)⟩
  · rw [Int32.lt_iff_toInt_lt, h1, show (1 : Int32).toInt = 1 from rfl]
    omega
  · rw [Int32.le_iff_toInt_le, h1, show (1 : Int32).toInt = 1 from rfl]
    omega
theorem tmX0_empI {N : Nat} {d : tm_M} {w h pad : Nat} (h2 : d 0 2 = nI w - 2 * nI pad) (h3 : d 0 3 = nI h - 2 * nI pad) (hw : w ≤ 200) (hh : h ≤ 200) (hp : pad ≤ 3) : fX0_isEmpty N d = some (if w ≤ 2 * pad ∨ h ≤ 2 * pad then 1 else 0) := by
  obtain ⟨a1, a2, a3⟩ := tm_inner hw hp
  obtain ⟨b1, b2, b3⟩ := tm_inner hh hp
  simp only [fX0_isEmpty]
  rw [h2, h3]
  by_cases hw0 : w ≤ 2 * pad
  · rw [if_pos (a1.mpr hw0), if_pos (Or.inl hw0)]
  · rw [if_neg (fun q => hw0 (a1.mp q))]
    by_cases hh0 : h ≤ 2 * pad
    · rw [if_neg (fun q => b2.mp q hh0), if_pos (Or.inr hh0)]
    · rw [if_pos (b2.mpr hh0), if_neg (by omega)]
theorem tmX2_add {N : Nat} {P : tm_M} {k : Nat} (hk : k < 24) (hc : P 0 2 = nI k) (a b : Int32) : ∃ P', fX2_add N P a b = some P' ∧ P' 0 2 = nI (k + 1) ∧ P' 1 k = a ∧ P' 2 k = b ∧ (∀ j, j ≠ k → P' 1 j = P 1 j ∧ P' 2 j = P 2 j) ∧ (∀ c, 3 ≤ c → P' c = P c) := by
  simp only [fX2_add, hc]
  rw [if_neg (by rw [show (24 : Int32) = nI 24 from rfl, nI_leI (by decide) (by omega)]; omega), tm_gT (tm_inbN hk (by decide)), nI_clamp (by omega)]
  simp only [tm_nm]
  rw [tm_ucN (show 0 ≠ 1 by decide), hc, tm_gT (tm_inbN hk (by decide)), nI_clamp (by omega)]
  refine ⟨_, rfl, ?_, ?_, ?_, ?_, ?_⟩
  · rw [tm_ukE, tm_ucN (by decide), tm_ucN (by decide), hc, nI_1]
  · rw [tm_ukN (by decide), tm_ucN (by decide), tm_ucE, pk_us]
  · rw [tm_ukN (by decide), tm_ucE, pk_us]
  · intro j hj
    refine ⟨?_, ?_⟩
    · rw [tm_ukN (by decide), tm_ucN (by decide), tm_ucE, pk_un hj]
    · rw [tm_ukN (by decide), tm_ucE, pk_un hj, tm_ucN (by decide)]
  · intro c h
    rw [tm_ukN (by omega), tm_ucN (by omega), tm_ucN (by omega)]
theorem tmX2_slc {N : Nat} (hN : 300 ≤ N) {P R : tm_M} {m x y w h : Nat} {kd sz : Nat → Nat} {bs : Bool} {b : Int32} (hb : b = cond bs 1 0) (ho : tm_ok m kd sz) (hk : tm_kids P m kd sz) (h0 : P 3 0 = nI x) (h1 : P 3 1 = nI y) (h2 : P 3 2 = nI w) (h3 : P 3 3 = nI h) (hw : w ≤ 200) (hh : h ≤ 200) :
    ∃ P' R', fX2_slice N P R b = some (P', R') ∧ (∀ j, j < m → tm_at4 (R' 1) (R' 2) (R' 3) (R' 4) (kd j) (tm_row x y w h bs sz m j)) ∧ (∀ i, (∀ j, j < m → kd j ≠ i) → ∀ c, R' c i = R c i) ∧ R' 0 = R 0 := by
  obtain ⟨b', s1, s2, s3, s4, s5⟩ := tmX0_set (N := N) (tm_sh P 4) (nI x) (nI y) (nI w) (nI h)
  have hkZ : tm_kids (tm_ins P 4 1 b') m kd sz := tm_kids_eq hk (tm_inN (by omega)) (tm_inN (by omega)) (tm_inN (by omega))
  have hm1 := ho.1
  obtain ⟨P', R', f1, f2, f3, f4, f5⟩ := tmX2_fill (N := N) (P := tm_ins P 4 1 b') (R := R) hN hb ho hkZ (show 0 < m by omega) (Nat.le_refl m) ⟨s2, s3, s4, s5⟩ hw hh
  simp only [fX2_slice]
  rw [h0, h1, h2, h3, s1]
  simp only [Option.bind_some, tm_nm]
  rw [hkZ.1, show (0 : Int32) = nI 0 from rfl, f1]
  refine ⟨P', R', rfl, ?_, ?_, f5⟩
  · intro j hj
    have := f3 j (Nat.zero_le _) hj
    rw [show (fun t => sz (0 + t)) = sz from by funext t; rw [Nat.zero_add], Nat.sub_zero, Nat.sub_zero] at this
    exact this
  · intro i hi c
    exact f4 i (fun j _ hj => hi j hj) c
theorem tm_narB (b : Bool) : vp_nar .boolean (if b = true then 1 else 0) = if b = true then 1 else 0 := by
  cases b <;> decide
/-- what the loop over the children leaves -/
def tm_pcI (D : tm_M) (v : Int32) (kd S : Nat → Nat) (k : Nat) (Q : tm_M) : Prop :=
  (∀ c, c = 0 ∨ c = 1 ∨ c = 2 ∨ c = 4 ∨ c = 9 ∨ c = 10 ∨ c = 11 ∨ c = 15 → Q c = D c) ∧ tm_kids (tm_sh Q 12) k kd (fun j => S (kd j)) ∧ (∀ j, j < k → Q 3 (kd j) = v ∧ tm_at4 (Q 5) (Q 6) (Q 7) (Q 8) (kd j) (0, 0, 0, 0)) ∧ (∀ i, (∀ j, j < k → kd j ≠ i) → Q 3 i = D 3 i ∧ Q 5 i = D 5 i ∧ Q 6 i = D 6 i ∧ Q 7 i = D 7 i ∧ Q 8 i = D 8 i)
theorem tmX1_pcL {N : Nat} (hN : 300 ≤ N) {D : tm_M} {v : Int32} {f m : Nat} {kd S : Nat → Nat} (hv : vp_nar .boolean v = v) (hfm : f + m ≤ 24) (h0 : D 12 2 = nI 0) (hk : ∀ j, j < m → D 9 (f + j) = nI (kd j) ∧ kd j < 24 ∧ D 1 (kd j) = nI (S (kd j))) (hi : ∀ i j, i < m → j < m → kd i = kd j → i = j) :
    ∃ o, tm_whl (bX1_placeChildren_92 N v (nI (f + m))) N (nI f, D) = some o ∧ tm_pcI D v kd S m o.2 := by
  refine tm_fI (I := fun i st => st.1 = nI i ∧ tm_pcI D v kd S (i - f) st.2) f (f + m) (by omega) ?_ ?_ (by omega) ⟨rfl, fun c _ => rfl, ⟨by rw [Nat.sub_self]; exact h0, fun j hj => by omega⟩, fun j hj => by omega, fun i _ => ⟨rfl, rfl, rfl, rfl, rfl⟩⟩
  · rintro i ⟨u, Q⟩ hfi him ⟨hu, q1, q2, q3, q4⟩
    simp only at hu q1 q2 q3 q4
    subst hu
    obtain ⟨k1, k2, k3⟩ := hk (i - f) (by omega)
    rw [show f + (i - f) = i by omega] at k1
    obtain ⟨Z, z1, z2, z3, z4⟩ := tmX3_put (N := N) (d := tm_sh (tm_upc Q 3 (upd (Q 3) (kd (i - f)) v)) 4) k2 0 0 0 0
    have e12 : tm_ins (tm_upc Q 3 (upd (Q 3) (kd (i - f)) v)) 4 5 Z 12 = Q 12 := by rw [tm_inN (by omega), tm_ucN (by decide)]
    obtain ⟨P', a1, a2, a3, a4, a5, a6⟩ := tmX2_add (N := N) (P := tm_sh (tm_ins (tm_upc Q 3 (upd (Q 3) (kd (i - f)) v)) 4 5 Z) 12) (k := i - f) (by omega) (by show tm_ins _ 4 5 Z 12 2 = _; rw [e12]; exact q2.1) (nI (kd (i - f))) (nI (S (kd (i - f))))
    have e1 : tm_ins (tm_upc Q 3 (upd (Q 3) (kd (i - f)) v)) 4 5 Z 1 = D 1 := by rw [tm_inN (by omega), tm_ucN (by decide)]; exact q1 1 (by omega)
    simp only [bX1_placeChildren_92]
    rw [if_neg (by rw [nI_leI (by omega) (by omega)]; omega), tm_gT (tm_inbN (by omega) (by decide)), nI_clamp (show i < 2 ^ 31 by omega), q1 9 (by omega), k1]
    simp only [tm_nm]
    rw [tm_gT (tm_inbN k2 (by decide)), nI_clamp (show kd (i - f) < 2 ^ 31 by omega), hv, z1]
    simp only [Option.bind_some]
    rw [e1, k3, a1]
    simp only [Option.bind_some, nI_1]
    refine ⟨_, rfl, rfl, ?_⟩
    rw [show i + 1 - f = i - f + 1 by omega]
    have hne : ∀ j, j < i - f → kd j ≠ kd (i - f) := fun j hj q => by
      have := hi j (i - f) (by omega) (by omega) q
      omega
    refine ⟨?_, ⟨a2, ?_⟩, ?_, ?_⟩
    · intro c hc
      simp only
      by_cases hc15 : c = 15
      · subst hc15
        show P' 3 = _
        rw [a6 3 (by omega)]
        show tm_ins _ 4 5 Z 15 = _
        rw [tm_inN (by omega), tm_ucN (by decide)]
        exact q1 15 (by omega)
      · rw [tm_inN (by omega)]
        by_cases hc4 : c = 4
        · subst hc4
          show Z 0 = _
          rw [z4]
          show tm_upc Q 3 _ 4 = _
          rw [tm_ucN (by decide)]
          exact q1 4 (by omega)
        · rw [tm_inN (by omega), tm_ucN (by omega)]
          exact q1 c hc
    · intro j hj
      by_cases ej : j = i - f
      · subst ej
        exact ⟨a3, a4⟩
      · obtain ⟨b1, b2⟩ := a5 j ej
        obtain ⟨b3, b4⟩ := q2.2 j (by omega)
        refine ⟨?_, ?_⟩
        · show P' 1 j = _
          rw [b1]
          show tm_ins _ 4 5 Z 13 j = _
          rw [tm_inN (by omega), tm_ucN (by decide)]
          exact b3
        · show P' 2 j = _
          rw [b2]
          show tm_ins _ 4 5 Z 14 j = _
          rw [tm_inN (by omega), tm_ucN (by decide)]
          exact b4
    · intro j hj
      simp only
      by_cases ej : j = i - f
      · subst ej
        refine ⟨?_, z2.1, z2.2.1, z2.2.2.1, z2.2.2.2⟩
        rw [tm_inN (by omega), tm_inN (by omega), tm_ucE, pk_us]
      · have hn := hne j (by omega)
        obtain ⟨b1, b2, b3, b4, b5⟩ := q3 j (by omega)
        refine ⟨?_, ?_, ?_, ?_, ?_⟩
        · rw [tm_inN (by omega), tm_inN (by omega), tm_ucE, pk_un hn]
          exact b1
        · show Z 1 _ = _
          rw [z3 _ hn]
          exact b2
        · show Z 2 _ = _
          rw [z3 _ hn]
          exact b3
        · show Z 3 _ = _
          rw [z3 _ hn]
          exact b4
        · show Z 4 _ = _
          rw [z3 _ hn]
          exact b5
    · intro i' hi'
      simp only
      have hn : i' ≠ kd (i - f) := fun q => hi' (i - f) (by omega) q.symm
      obtain ⟨b1, b2, b3, b4, b5⟩ := q4 i' (fun j hj => hi' j (by omega))
      refine ⟨?_, ?_, ?_, ?_, ?_⟩
      · rw [tm_inN (by omega), tm_inN (by omega), tm_ucE, pk_un hn]
        exact b1
      · show Z 1 _ = _
        rw [z3 _ hn]
        exact b2
      · show Z 2 _ = _
        rw [z3 _ hn]
        exact b3
      · show Z 3 _ = _
        rw [z3 _ hn]
        exact b4
      · show Z 4 _ = _
        rw [z3 _ hn]
        exact b5
  · rintro ⟨u, Q⟩ ⟨hu, hq⟩
    simp only at hu hq
    subst hu
    rw [show f + m - f = m by omega] at hq
    simp only [bX1_placeChildren_92]
    rw [if_pos (nI_le (Nat.le_refl _) (by omega))]
    exact ⟨_, rfl, hq⟩
