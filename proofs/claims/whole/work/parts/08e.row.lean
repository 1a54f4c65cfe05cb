/-! a row of children: the numbers, and the class's fillBand -/
abbrev tm_R : Type := Nat × Nat × Nat × Nat
def tm_row (x y w h : Nat) (bs : Bool) (s : Nat → Nat) (m : Nat) (j : Nat) : tm_R :=
  cond bs (x + tm_sum (tm_app s m w) j, y, tm_app s m w j, h) (x, y + tm_sum (tm_app s m h) j, w, tm_app s m h j)
def tm_at4 (a b c e : Nat → Int32) (i : Nat) (r : tm_R) : Prop := a i = nI r.1 ∧ b i = nI r.2.1 ∧ c i = nI r.2.2.1 ∧ e i = nI r.2.2.2
theorem tmX3_put {N : Nat} {d : tm_M} {i : Nat} (hi : i < 24) (p2 p3 p4 p5 : Int32) : ∃ d', fX3_put N d (nI i) p2 p3 p4 p5 = some d' ∧ (d' 1 i = p2 ∧ d' 2 i = p3 ∧ d' 3 i = p4 ∧ d' 4 i = p5) ∧ (∀ j, j ≠ i → ∀ c, d' c j = d c j) ∧ d' 0 = d 0 := by
  simp only [fX3_put]
  rw [tm_gT (tm_inbN hi (by decide)), nI_clamp (by omega)]
  simp only [tm_nm]
  refine ⟨_, rfl, ⟨?_, ?_, ?_, ?_⟩, ?_, ?_⟩
  · rw [tm_ucN (by decide), tm_ucN (by decide), tm_ucN (by decide), tm_ucE, pk_us]
  · rw [tm_ucN (by decide), tm_ucN (by decide), tm_ucE, pk_us]
  · rw [tm_ucN (by decide), tm_ucE, pk_us]
  · rw [tm_ucE, pk_us]
  · intro j hj c
    by_cases h4 : c = 4
    · subst h4
      rw [tm_ucE, pk_un hj, tm_ucN (by decide), tm_ucN (by decide), tm_ucN (by decide)]
    · rw [tm_ucN h4]
      by_cases h3 : c = 3
      · subst h3
        rw [tm_ucE, pk_un hj, tm_ucN (by decide), tm_ucN (by decide)]
      · rw [tm_ucN h3]
        by_cases h2 : c = 2
        · subst h2
          rw [tm_ucE, pk_un hj, tm_ucN (by decide)]
        · rw [tm_ucN h2]
          by_cases h1 : c = 1
          · subst h1
            rw [tm_ucE, pk_un hj]
          · rw [tm_ucN h1]
  · rw [tm_ucN (by decide), tm_ucN (by decide), tm_ucN (by decide), tm_ucN (by decide)]
theorem tmX4_add {N : Nat} {d : tm_M} {n : Nat} (hn : n < 24) (hc : d 0 3 = nI n) (v : Int32) : ∃ d', fX4_add N d v = some d' ∧ d' 0 3 = nI (n + 1) ∧ d' 1 n = v ∧ (∀ j, j ≠ n → d' 1 j = d 1 j) ∧ (∀ c, 2 ≤ c → d' c = d c) := by
  simp only [fX4_add, hc]
  rw [if_neg (by rw [show (24 : Int32) = nI 24 from rfl, nI_leI (by decide) (by omega)]; omega), tm_gT (tm_inbN hn (by decide)), nI_clamp (by omega)]
  simp only [tm_nm]
  refine ⟨_, rfl, ?_, ?_, ?_, ?_⟩
  · rw [tm_ukE, tm_ucN (by decide), hc, nI_1]
  · rw [tm_ukN (by decide), tm_ucE, pk_us]
  · intro j hj
    rw [tm_ukN (by decide), tm_ucE, pk_un hj]
  · intro c h
    rw [tm_ukN (by omega), tm_ucN (by omega)]
/-- the Placer's own rows: m children kd with sizes sz -/
def tm_kids (P : tm_M) (m : Nat) (kd sz : Nat → Nat) : Prop := P 0 2 = nI m ∧ ∀ j, j < m → P 1 j = nI (kd j) ∧ P 2 j = nI (sz j)
/-- what is asked of m children -/
def tm_ok (m : Nat) (kd sz : Nat → Nat) : Prop := 1 ≤ m ∧ m ≤ 24 ∧ (∀ j, j < m → kd j < 24 ∧ 1 ≤ sz j) ∧ (∀ i j, i < m → j < m → kd i = kd j → i = j) ∧ tm_sum sz m ≤ 2400
theorem tm_sum_part {f : Nat → Nat} {a n m : Nat} (h : a + n ≤ m) : tm_sum (fun t => f (a + t)) n ≤ tm_sum f m := by
  have key : ∀ n, tm_sum f a + tm_sum (fun t => f (a + t)) n = tm_sum f (a + n) := by
    intro n
    induction n with
    | zero => rfl
    | succ n ih => rw [← Nat.add_assoc]; simp only [tm_sum]; omega
  have h1 := key n
  have h2 := tm_sum_mono (f := f) h
  omega
theorem tm_sum_pos {f : Nat → Nat} {n : Nat} (hn : 1 ≤ n) (h : ∀ j, j < n → 1 ≤ f j) : 0 < tm_sum f n := by
  have := tm_sum_ge (f := f) (j := 0) n (by omega)
  have := h 0 (by omega)
  omega
theorem tmX2_fill {N : Nat} (hN : 300 ≤ N) {P R : tm_M} {m a e x y w h : Nat} {kd sz : Nat → Nat} {bs : Bool} {b : Int32} (hb : b = cond bs 1 0) (ho : tm_ok m kd sz) (hk : tm_kids P m kd sz) (hae : a < e) (hem : e ≤ m)
    (hbox : P 4 0 = nI x ∧ P 4 1 = nI y ∧ P 4 2 = nI w ∧ P 4 3 = nI h) (hw : w ≤ 200) (hh : h ≤ 200) :
    ∃ P' R', fX2_fillBand N P R (nI a) (nI e) b = some (P', R') ∧ (∀ c, c < 5 ∨ 9 ≤ c → P' c = P c) ∧ (∀ j, a ≤ j → j < e → tm_at4 (R' 1) (R' 2) (R' 3) (R' 4) (kd j) (tm_row x y w h bs (fun t => sz (a + t)) (e - a) (j - a))) ∧ (∀ i, (∀ j, a ≤ j → j < e → kd j ≠ i) → ∀ c, R' c i = R c i) ∧ R' 0 = R 0 := by
  obtain ⟨ho1, ho2, ho3, ho4, ho5⟩ := ho
  obtain ⟨hk1, hk2⟩ := hk
  obtain ⟨hb0, hb1, hb2, hb3⟩ := hbox
  have h24 : e - a ≤ 24 := by omega
  -- cleared
  have hcl : fX4_clear N (tm_sh P 5) = some (tm_upk (tm_sh P 5) 0 3 0) := rfl
  -- filled
  have hfill : ∃ o, tm_whl (bX2_fillBand_10 N (nI e)) N (nI a, tm_ins P 5 4 (tm_upk (tm_sh P 5) 0 3 0)) = some o ∧ ((∀ c, c < 5 ∨ 9 ≤ c → o.2 c = P c) ∧ o.2 5 3 = nI (e - a) ∧ ∀ t, t < e - a → o.2 6 t = nI (sz (a + t))) := by
    refine tm_fI (I := fun i st => st.1 = nI i ∧ (∀ c, c < 5 ∨ 9 ≤ c → st.2 c = P c) ∧ st.2 5 3 = nI (i - a) ∧ ∀ t, t < i - a → st.2 6 t = nI (sz (a + t))) a e (by omega) ?_ ?_ (by omega) ⟨rfl, fun c hc => tm_inN (by omega), ?_, fun t ht => by omega⟩
    · rintro i ⟨u, Q⟩ hai hie ⟨hu, hq, hq5, hq6⟩
      simp only at hu hq hq5 hq6
      subst hu
      have k2 : Q 2 i = nI (sz i) := by rw [hq 2 (by omega)]; exact (hk2 i (by omega)).2
      obtain ⟨d', g1, g2, g3, g4, g5⟩ := tmX4_add (N := N) (d := tm_sh Q 5) (n := i - a) (by omega) hq5 (nI (sz i))
      simp only [bX2_fillBand_10]
      rw [if_neg (by rw [nI_leI (by omega) (by omega)]; omega), tm_gT (tm_inbN (by omega) (by decide)), nI_clamp (by omega), k2, g1]
      simp only [Option.bind_some, tm_nm, nI_1]
      refine ⟨_, rfl, rfl, ?_, ?_, ?_⟩
      · intro c hc
        simp only
        rw [tm_inN (by omega)]
        exact hq c hc
      · show d' 0 3 = _
        rw [g2]
        congr 1
        omega
      · intro t ht
        show d' 1 t = _
        by_cases et : t = i - a
        · subst et
          rw [g3]
          congr 2
          omega
        · rw [g4 t et]
          exact hq6 t (by omega)
    · rintro ⟨u, Q⟩ ⟨hu, hq, hq5, hq6⟩
      simp only at hu hq hq5 hq6
      subst hu
      simp only [bX2_fillBand_10]
      rw [if_pos (by rw [nI_leI (by omega) (by omega)]; omega)]
      exact ⟨_, rfl, hq, hq5, hq6⟩
    · show tm_upk (tm_sh P 5) 0 3 0 0 3 = _
      rw [tm_ukE, Nat.sub_self]
      rfl
  obtain ⟨⟨u, Q⟩, hf1, hq, hq5, hq6⟩ := hfill
  simp only at hq hq5 hq6
  -- apportioned
  have hTp : 0 < tm_sum (fun t => sz (a + t)) (e - a) := tm_sum_pos (by omega) (fun j hj => (ho3 (a + j) (by omega)).2)
  have hTm : tm_sum (fun t => sz (a + t)) (e - a) ≤ 2400 := Nat.le_trans (tm_sum_part (by omega)) ho5
  have happ : ∀ L, L ≤ 200 → ∃ d', fX4_apportion N (tm_sh Q 5) (nI L) = some d' ∧ (∀ j, j < e - a → d' 3 j = nI (tm_app (fun t => sz (a + t)) (e - a) L j)) ∧ (∀ c, c ≠ 2 → c ≠ 3 → d' c = tm_sh Q 5 c) := by
    intro L hL
    refine tmX4_app hN (by omega) h24 hq5 hq6 hTp (by omega) ?_ (by omega)
    exact Nat.lt_of_le_of_lt (Nat.mul_le_mul hTm hL) (by decide)
  -- laid
  have hlay : ∀ (d' : tm_M) (L : Nat), L = cond bs w h → (∀ j, j < e - a → d' 3 j = nI (tm_app (fun t => sz (a + t)) (e - a) L j)) → ∃ o, tm_whl (bX2_fillBand_70 N (tm_ins Q 5 4 d') (nI a) (nI e) b) N (0, nI a, R) = some o ∧ ((∀ j, a ≤ j → j < e → tm_at4 (o.2.2 1) (o.2.2 2) (o.2.2 3) (o.2.2 4) (kd j) (tm_row x y w h bs (fun t => sz (a + t)) (e - a) (j - a))) ∧ (∀ i, (∀ j, a ≤ j → j < e → kd j ≠ i) → ∀ c, o.2.2 c i = R c i) ∧ o.2.2 0 = R 0) := by
    intro d' L hL hd3
    refine tm_fI (I := fun i st => st.1 = nI (tm_sum (tm_app (fun t => sz (a + t)) (e - a) L) (i - a)) ∧ st.2.1 = nI i ∧ (∀ j, a ≤ j → j < i → tm_at4 (st.2.2 1) (st.2.2 2) (st.2.2 3) (st.2.2 4) (kd j) (tm_row x y w h bs (fun t => sz (a + t)) (e - a) (j - a))) ∧ (∀ i', (∀ j, a ≤ j → j < i → kd j ≠ i') → ∀ c, st.2.2 c i' = R c i') ∧ st.2.2 0 = R 0) a e (by omega) ?_ ?_ (by omega) ⟨by rw [Nat.sub_self]; rfl, rfl, fun j h1 h2 => by omega, fun i' _ c => rfl, rfl⟩
    · rintro i ⟨u, v, Z⟩ hai hie ⟨hu, hv, hz, hz2, hz3⟩
      simp only at hu hv hz hz2 hz3
      subst hu hv
      have e1 : tm_ins Q 5 4 d' 1 = P 1 := by rw [tm_inN (by omega)]; exact hq 1 (by omega)
      have e4 : tm_ins Q 5 4 d' 4 = P 4 := by rw [tm_inN (by omega)]; exact hq 4 (by omega)
      have e8 : tm_ins Q 5 4 d' 8 = d' 3 := rfl
      have hkd : kd i < 24 := (ho3 i (by omega)).1
      have hki := (hk2 i (by omega)).1
      have hsub : nI i - nI a = nI (i - a) := pk_sub (by omega)
      have hia : i + 1 - a = (i - a) + 1 := by omega
      simp only [bX2_fillBand_70, e1, e4, e8, hsub, hb0, hb1, hb2, hb3]
      rw [if_neg (by rw [nI_leI (by omega) (by omega)]; omega), tm_gT (tm_inbN (by omega) (by decide)), nI_clamp (by omega), hd3 (i - a) (by omega)]
      simp only [tm_nm, nI_1, tm_gT (tm_inbN (show i < 24 by omega) (by decide)), nI_clamp (show i < 2 ^ 31 by omega), hki, nI_add]
      cases bs with
      | false =>
        simp only [cond] at hL hb
        subst hL
        rw [if_pos hb]
        obtain ⟨Z', g1, g2, g3, g4⟩ := tmX3_put (N := N) (d := Z) hkd (nI x) (nI (y + tm_sum (tm_app (fun t => sz (a + t)) (e - a) L) (i - a))) (nI w) (nI (tm_app (fun t => sz (a + t)) (e - a) L (i - a)))
        rw [g1]
        simp only [Option.bind_some]
        refine ⟨_, rfl, ?_, rfl, ?_, ?_, g4.trans hz3⟩
        · rw [hia]; rfl
        · intro j h1 h2
          by_cases ej : j = i
          · subst ej
            exact ⟨g2.1, g2.2.1, g2.2.2.1, g2.2.2.2⟩
          · have hne : kd j ≠ kd i := fun hh => ej (ho4 j i (by omega) (by omega) hh)
            have := hz j h1 (by omega)
            simp only [tm_at4] at this ⊢
            rw [g3 _ hne, g3 _ hne, g3 _ hne, g3 _ hne]
            exact this
        · intro i' hi' c
          show Z' c i' = R c i'
          rw [g3 i' (fun hh => hi' i (by omega) (by omega) hh.symm)]
          exact hz2 i' (fun j h1 h2 => hi' j h1 (by omega)) c
      | true =>
        simp only [cond] at hL hb
        subst hL
        rw [if_neg (by rw [hb]; decide)]
        obtain ⟨Z', g1, g2, g3, g4⟩ := tmX3_put (N := N) (d := Z) hkd (nI (x + tm_sum (tm_app (fun t => sz (a + t)) (e - a) L) (i - a))) (nI y) (nI (tm_app (fun t => sz (a + t)) (e - a) L (i - a))) (nI h)
        rw [g1]
        simp only [Option.bind_some]
        refine ⟨_, rfl, ?_, rfl, ?_, ?_, g4.trans hz3⟩
        · rw [hia]; rfl
        · intro j h1 h2
          by_cases ej : j = i
          · subst ej
            exact ⟨g2.1, g2.2.1, g2.2.2.1, g2.2.2.2⟩
          · have hne : kd j ≠ kd i := fun hh => ej (ho4 j i (by omega) (by omega) hh)
            have := hz j h1 (by omega)
            simp only [tm_at4] at this ⊢
            rw [g3 _ hne, g3 _ hne, g3 _ hne, g3 _ hne]
            exact this
        · intro i' hi' c
          show Z' c i' = R c i'
          rw [g3 i' (fun hh => hi' i (by omega) (by omega) hh.symm)]
          exact hz2 i' (fun j h1 h2 => hi' j h1 (by omega)) c
    · rintro ⟨u, v, Z⟩ ⟨hu, hv, hz, hz2, hz3⟩
      simp only at hu hv hz hz2 hz3
      subst hu hv
      simp only [bX2_fillBand_70]
      rw [if_pos (by rw [nI_leI (by omega) (by omega)]; omega)]
      exact ⟨_, rfl, hz, hz2, hz3⟩
  simp only [fX2_fillBand, hcl, Option.bind_some, tm_nm, hf1]
  have q42 : Q 4 2 = nI w := by rw [hq 4 (by omega)]; exact hb2
  have q43 : Q 4 3 = nI h := by rw [hq 4 (by omega)]; exact hb3
  cases bs with
  | false =>
    rw [if_pos (by rw [hb]; rfl), q43]
    obtain ⟨d', g1, g2, g3⟩ := happ h hh
    obtain ⟨o, g4, g5, g6, g7⟩ := hlay d' h rfl g2
    rw [g1]
    simp only [Option.bind_some, g4]
    refine ⟨_, _, rfl, fun c hc => ?_, g5, g6, g7⟩
    rw [tm_inN (by omega)]
    exact hq c hc
  | true =>
    rw [if_neg (by rw [hb]; decide), q42]
    obtain ⟨d', g1, g2, g3⟩ := happ w hw
    obtain ⟨o, g4, g5, g6, g7⟩ := hlay d' w rfl g2
    rw [g1]
    simp only [Option.bind_some, g4]
    refine ⟨_, _, rfl, fun c hc => ?_, g5, g6, g7⟩
    rw [tm_inN (by omega)]
    exact hq c hc
