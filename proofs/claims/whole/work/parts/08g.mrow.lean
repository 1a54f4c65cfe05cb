/-- the reference's rows: m children kd, with sizes sz by node -/
def tm_kidsM (e : tm_M) (m : Nat) (kd sz : Nat → Nat) : Prop := e 0 13 = nI m ∧ ∀ j, j < m → e 12 j = nI (kd j) ∧ e 11 (kd j) = nI (sz j)
theorem tmX8_puts {N : Nat} {d : tm_M} {g0 : Int64} {i : Nat} (hi : i < 24) (p2 p3 p4 p5 : Int32) : ∃ d', fX8_puts N d g0 (nI i) p2 p3 p4 p5 = some d' ∧ (d' 6 i = p2 ∧ d' 7 i = p3 ∧ d' 8 i = p4 ∧ d' 9 i = p5) ∧ (∀ j, j ≠ i → ∀ c, d' c j = d c j) ∧ (∀ c, c < 6 ∨ 10 ≤ c → d' c = d c) := by
  simp only [fX8_puts]
  rw [tm_gT (tm_inbN hi (by decide)), nI_clamp (by omega)]
  simp only [tm_nm]
  refine ⟨_, rfl, ⟨?_, ?_, ?_, ?_⟩, ?_, ?_⟩
  · rw [tm_ucN (by decide), tm_ucN (by decide), tm_ucN (by decide), tm_ucE, pk_us]
  · rw [tm_ucN (by decide), tm_ucN (by decide), tm_ucE, pk_us]
  · rw [tm_ucN (by decide), tm_ucE, pk_us]
  · rw [tm_ucE, pk_us]
  · intro j hj c
    by_cases h4 : c = 9
    · subst h4
      rw [tm_ucE, pk_un hj, tm_ucN (by decide), tm_ucN (by decide), tm_ucN (by decide)]
    · rw [tm_ucN h4]
      by_cases h3 : c = 8
      · subst h3
        rw [tm_ucE, pk_un hj, tm_ucN (by decide), tm_ucN (by decide)]
      · rw [tm_ucN h3]
        by_cases h2 : c = 7
        · subst h2
          rw [tm_ucE, pk_un hj, tm_ucN (by decide)]
        · rw [tm_ucN h2]
          by_cases h1 : c = 6
          · subst h1
            rw [tm_ucE, pk_un hj]
          · rw [tm_ucN h1]
  · intro c hc
    rw [tm_ucN (by omega), tm_ucN (by omega), tm_ucN (by omega), tm_ucN (by omega)]
theorem tmX8_sumOf {N : Nat} (hN : 300 ≤ N) {d : tm_M} {g0 : Int64} {m a n : Nat} {kd sz : Nat → Nat} (ho : tm_ok m kd sz) (hk : tm_kidsM d m kd sz) (han : a + n ≤ m) : fX8_sumOf N d g0 (nI a) (nI n) = some (nI (tm_sum (fun t => sz (a + t)) n)) := by
  obtain ⟨ho1, ho2, ho3, ho4, ho5⟩ := ho
  have h : tm_whl (bX8_sumOf_5 N d (nI a) (nI n)) N (nI (tm_sum (fun t => sz (a + t)) 0), nI 0) = some (nI (tm_sum (fun t => sz (a + t)) n), nI n) := by
    refine tm_forE (fun i => (nI (tm_sum (fun t => sz (a + t)) i), nI i)) 0 n (by omega) ?_ ?_ (by omega)
    · intro i _ hi
      have h1 := (hk.2 (a + i) (by omega)).1
      have h2 := (hk.2 (a + i) (by omega)).2
      have h3 := (ho3 (a + i) (by omega)).1
      simp only [bX8_sumOf_5]
      rw [if_neg (by rw [nI_leI (by omega) (by omega)]; omega), nI_add, tm_gT (tm_inbN (by omega) (by decide)), nI_clamp (by omega), h1, tm_gT (tm_inbN h3 (by decide)), nI_clamp (by omega), h2]
      simp only [tm_nm, nI_1, nI_add, tm_sum]
    · simp only [bX8_sumOf_5]
      rw [if_pos (by rw [nI_leI (by omega) (by omega)]; omega)]
  simp only [fX8_sumOf]
  rw [show ((0 : Int32), (0 : Int32)) = (nI (tm_sum (fun t => sz (a + t)) 0), nI 0) from rfl, h]
  rfl
theorem tmX8_laysSizes {N : Nat} (hN : 300 ≤ N) {d : tm_M} {g0 : Int64} {m a n : Nat} {kd sz : Nat → Nat} (ho : tm_ok m kd sz) (hk : tm_kidsM d m kd sz) (han : a + n ≤ m) : ∃ d', fX8_laysSizes N d g0 (nI a) (nI n) = some d' ∧ (∀ t, t < n → d' 4 t = nI (sz (a + t))) ∧ (∀ c, c ≠ 4 → d' c = d c) := by
  obtain ⟨ho1, ho2, ho3, ho4, ho5⟩ := ho
  have h : ∃ o, tm_whl (bX8_laysSizes_2 N (nI a) (nI n)) N (nI 0, d) = some o ∧ ((∀ t, t < n → o.2 4 t = nI (sz (a + t))) ∧ (∀ c, c ≠ 4 → o.2 c = d c)) := by
    refine tm_fI (I := fun i st => st.1 = nI i ∧ (∀ t, t < i → st.2 4 t = nI (sz (a + t))) ∧ (∀ c, c ≠ 4 → st.2 c = d c)) 0 n (by omega) ?_ ?_ (by omega) ⟨rfl, fun t ht => by omega, fun c _ => rfl⟩
    · rintro i ⟨u, z⟩ _ hi ⟨hu, hz, hk'⟩
      simp only at hu hz hk'
      subst hu
      have h1 := (hk.2 (a + i) (by omega)).1
      have h2 := (hk.2 (a + i) (by omega)).2
      have h3 := (ho3 (a + i) (by omega)).1
      simp only [bX8_laysSizes_2]
      rw [if_neg (by rw [nI_leI (by omega) (by omega)]; omega), nI_add, tm_gT (tm_inbN (by omega) (by decide)), nI_clamp (show a + i < 2 ^ 31 by omega), hk' 12 (by decide), h1, tm_gT (tm_inbN h3 (by decide)), tm_gT (tm_inbN (show i < 24 by omega) (by decide)), nI_clamp (show i < 2 ^ 31 by omega), nI_clamp (show kd (a + i) < 2 ^ 31 by omega), hk' 11 (by decide), h2]
      simp only [tm_nm, nI_1]
      refine ⟨_, rfl, rfl, ?_, ?_⟩
      · intro t ht
        simp only [tm_ucE]
        by_cases e : t = i
        · subst e; exact pk_us
        · rw [pk_un e]; exact hz t (by omega)
      · intro c hc
        simp only
        rw [tm_ucN hc]; exact hk' c hc
    · rintro ⟨u, z⟩ ⟨hu, hz, hk'⟩
      simp only at hu hz hk'
      subst hu
      simp only [bX8_laysSizes_2]
      rw [if_pos (by rw [nI_leI (by omega) (by omega)]; omega)]
      exact ⟨_, rfl, hz, hk'⟩
  obtain ⟨o, h1, h2, h3⟩ := h
  refine ⟨o.2, ?_, h2, h3⟩
  simp only [fX8_laysSizes]
  rw [← nI_0, h1]
  rfl
theorem tmX8_row {N : Nat} (hN : 300 ≤ N) {d : tm_M} {g0 : Int64} {m a n x y w h : Nat} {kd sz : Nat → Nat} {bs : Bool} {b : Int32} (hb : b = cond bs 1 0) (ho : tm_ok m kd sz) (hk : tm_kidsM d m kd sz) (hn : 1 ≤ n) (han : a + n ≤ m) (hw : w ≤ 200) (hh : h ≤ 200) :
    ∃ d', fX8_laysRow N d g0 (nI a) (nI n) (nI x) (nI y) (nI w) (nI h) b = some d' ∧ (∀ c, c < 4 ∨ 10 ≤ c → d' c = d c) ∧ (∀ j, a ≤ j → j < a + n → tm_at4 (d' 6) (d' 7) (d' 8) (d' 9) (kd j) (tm_row x y w h bs (fun t => sz (a + t)) n (j - a))) ∧ (∀ i, (∀ j, a ≤ j → j < a + n → kd j ≠ i) → ∀ c, 6 ≤ c → d' c i = d c i) := by
  obtain ⟨e1, f1, f2, f3⟩ := tmX8_laysSizes (N := N) (g0 := g0) hN ho hk han
  obtain ⟨ho1, ho2, ho3, ho4, ho5⟩ := ho
  have hTp : 0 < tm_sum (fun t => sz (a + t)) n := tm_sum_pos (by omega) (fun j hj => (ho3 (a + j) (by omega)).2)
  have hTm : tm_sum (fun t => sz (a + t)) n ≤ 2400 := Nat.le_trans (tm_sum_part (by omega)) ho5
  have happ : ∀ L, L ≤ 200 → ∃ d', fX8_parts N e1 g0 (nI L) (nI n) = some d' ∧ (∀ j, j < n → d' 5 j = nI (tm_app (fun t => sz (a + t)) n L j)) ∧ (∀ c, c ≠ 5 → d' c = e1 c) := by
    intro L hL
    refine tmX8_parts hN (by omega) (by omega) f2 hTp (by omega) ?_ (by omega)
    exact Nat.lt_of_le_of_lt (Nat.mul_le_mul hTm hL) (by decide)
  have hlay : ∀ (z0 : tm_M) (L st0 : Nat), L = cond bs w h → st0 = cond bs x y → (∀ j, j < n → z0 5 j = nI (tm_app (fun t => sz (a + t)) n L j)) → (∀ c, c ≠ 4 → c ≠ 5 → z0 c = d c) → ∃ o, tm_whl (bX8_laysRow_39 N g0 (nI a) (nI n) (nI x) (nI y) (nI w) (nI h) b) N (nI st0, 0, z0) = some o ∧ ((∀ c, c < 4 ∨ 10 ≤ c → o.2.2 c = d c) ∧ (∀ j, a ≤ j → j < a + n → tm_at4 (o.2.2 6) (o.2.2 7) (o.2.2 8) (o.2.2 9) (kd j) (tm_row x y w h bs (fun t => sz (a + t)) n (j - a))) ∧ (∀ i, (∀ j, a ≤ j → j < a + n → kd j ≠ i) → ∀ c, 6 ≤ c → o.2.2 c i = d c i)) := by
    intro z0 L st0 hL hst hz5 hzc
    refine tm_fI (I := fun i st => st.1 = nI (st0 + tm_sum (tm_app (fun t => sz (a + t)) n L) i) ∧ st.2.1 = nI i ∧ (∀ j, j < n → st.2.2 5 j = nI (tm_app (fun t => sz (a + t)) n L j)) ∧ (∀ c, c < 4 ∨ 10 ≤ c → st.2.2 c = d c) ∧ (∀ j, a ≤ j → j < a + i → tm_at4 (st.2.2 6) (st.2.2 7) (st.2.2 8) (st.2.2 9) (kd j) (tm_row x y w h bs (fun t => sz (a + t)) n (j - a))) ∧ (∀ i', (∀ j, a ≤ j → j < a + i → kd j ≠ i') → ∀ c, 6 ≤ c → st.2.2 c i' = d c i')) 0 n (by omega) ?_ ?_ (by omega) ⟨rfl, rfl, hz5, fun c hc => hzc c (by omega) (by omega), fun j h1 h2 => by omega, fun i' _ c hc => by simp only; rw [hzc c (by omega) (by omega)]⟩
    · rintro i ⟨u, v, Z⟩ _ hi ⟨hu, hv, hz5, hzc, hz, hz2⟩
      simp only at hu hv hz5 hzc hz hz2
      subst hu hv
      have hkd : kd (a + i) < 24 := (ho3 (a + i) (by omega)).1
      have hki := (hk.2 (a + i) (by omega)).1
      simp only [bX8_laysRow_39]
      rw [if_neg (by rw [nI_leI (by omega) (by omega)]; omega), tm_gT (tm_inbN (by omega) (by decide)), nI_clamp (show i < 2 ^ 31 by omega), hz5 i hi, nI_add]
      simp only [tm_nm]
      rw [tm_gT (tm_inbN (show a + i < 24 by omega) (by decide)), nI_clamp (show a + i < 2 ^ 31 by omega), hzc 12 (by omega), hki]
      simp only [nI_1, nI_add]
      cases bs with
      | false =>
        simp only [cond] at hL hb hst
        subst hL hst
        rw [if_pos hb]
        obtain ⟨Z', g1, g2, g3, g4⟩ := tmX8_puts (N := N) (g0 := g0) (d := Z) hkd (nI x) (nI (st0 + tm_sum (tm_app (fun t => sz (a + t)) n L) i)) (nI w) (nI (tm_app (fun t => sz (a + t)) n L i))
        rw [g1]
        simp only [Option.bind_some]
        refine ⟨_, rfl, ?_, rfl, ?_, ?_, ?_, ?_⟩
        · simp only [tm_sum, Nat.add_assoc]
        · intro j hj
          simp only
          rw [g4 5 (by omega)]
          exact hz5 j hj
        · intro c hc
          simp only
          rw [g4 c (by omega)]
          exact hzc c hc
        · intro j h1 h2
          by_cases ej : j = a + i
          · subst ej
            rw [show a + i - a = i by omega]
            exact ⟨g2.1, g2.2.1, g2.2.2.1, g2.2.2.2⟩
          · have hne : kd j ≠ kd (a + i) := fun hh => ej (ho4 j (a + i) (by omega) (by omega) hh)
            have := hz j h1 (by omega)
            simp only [tm_at4] at this ⊢
            rw [g3 _ hne, g3 _ hne, g3 _ hne, g3 _ hne]
            exact this
        · intro i' hi' c hc
          simp only
          rw [g3 i' (fun hh => hi' (a + i) (by omega) (by omega) hh.symm)]
          exact hz2 i' (fun j h1 h2 => hi' j h1 (by omega)) c hc
      | true =>
        simp only [cond] at hL hb hst
        subst hL hst
        rw [if_neg (by rw [hb]; decide)]
        obtain ⟨Z', g1, g2, g3, g4⟩ := tmX8_puts (N := N) (g0 := g0) (d := Z) hkd (nI (st0 + tm_sum (tm_app (fun t => sz (a + t)) n L) i)) (nI y) (nI (tm_app (fun t => sz (a + t)) n L i)) (nI h)
        rw [g1]
        simp only [Option.bind_some]
        refine ⟨_, rfl, ?_, rfl, ?_, ?_, ?_, ?_⟩
        · simp only [tm_sum, Nat.add_assoc]
        · intro j hj
          simp only
          rw [g4 5 (by omega)]
          exact hz5 j hj
        · intro c hc
          simp only
          rw [g4 c (by omega)]
          exact hzc c hc
        · intro j h1 h2
          by_cases ej : j = a + i
          · subst ej
            rw [show a + i - a = i by omega]
            exact ⟨g2.1, g2.2.1, g2.2.2.1, g2.2.2.2⟩
          · have hne : kd j ≠ kd (a + i) := fun hh => ej (ho4 j (a + i) (by omega) (by omega) hh)
            have := hz j h1 (by omega)
            simp only [tm_at4] at this ⊢
            rw [g3 _ hne, g3 _ hne, g3 _ hne, g3 _ hne]
            exact this
        · intro i' hi' c hc
          simp only
          rw [g3 i' (fun hh => hi' (a + i) (by omega) (by omega) hh.symm)]
          exact hz2 i' (fun j h1 h2 => hi' j h1 (by omega)) c hc
    · rintro ⟨u, v, Z⟩ ⟨hu, hv, hz5, hzc, hz, hz2⟩
      simp only at hu hv hz5 hzc hz hz2
      subst hu hv
      simp only [bX8_laysRow_39]
      rw [if_pos (by rw [nI_leI (by omega) (by omega)]; omega)]
      exact ⟨_, rfl, hzc, hz, hz2⟩
  simp only [fX8_laysRow, f1, Option.bind_some]
  cases bs with
  | false =>
    rw [if_pos (by rw [hb]; rfl)]
    obtain ⟨d', g1, g2, g3⟩ := happ h hh
    obtain ⟨o, g4, g5, g6, g7⟩ := hlay d' h y rfl rfl g2 (fun c h4 h5 => by rw [g3 c h5]; exact f3 c h4)
    rw [g1]
    simp only [Option.bind_some, g4]
    exact ⟨_, rfl, g5, g6, g7⟩
  | true =>
    rw [if_neg (by rw [hb]; decide)]
    obtain ⟨d', g1, g2, g3⟩ := happ w hw
    obtain ⟨o, g4, g5, g6, g7⟩ := hlay d' w x rfl rfl g2 (fun c h4 h5 => by rw [g3 c h5]; exact f3 c h4)
    rw [g1]
    simp only [Option.bind_some, g4]
    exact ⟨_, rfl, g5, g6, g7⟩
