/-! the class's squares -/
def tm_rn (sz : Nat → Nat) (m a w h : Nat) : Nat := tm_rl (fun t => sz (a + t)) (tm_unit w h (tm_sum (fun t => sz (a + t)) (m - a))) (tm_side w h) (m - a - 1) 1
def tm_tn (sz : Nat → Nat) (m a w h : Nat) : Nat := tm_thick (fun t => sz (a + t)) (m - a) (tm_rn sz m a w h) (if h ≤ w then w else h)
theorem tm_sqr_0 {sz : Nat → Nat} {m f a x y w h j : Nat} (h0 : w = 0 ∨ h = 0) : tm_sqr sz m (f + 1) a x y w h j = (x, y, 0, 0) := by
  simp only [tm_sqr]
  rw [if_pos h0]
theorem tm_sqr_1 {sz : Nat → Nat} {m f a x y w h j : Nat} (h0 : ¬ (w = 0 ∨ h = 0)) (hw : h ≤ w) : tm_sqr sz m (f + 1) a x y w h j = if j < a + tm_rn sz m a w h then tm_row x y (tm_tn sz m a w h) h false (fun t => sz (a + t)) (tm_rn sz m a w h) (j - a) else tm_sqr sz m f (a + tm_rn sz m a w h) (x + tm_tn sz m a w h) y (w - tm_tn sz m a w h) h j := by
  simp only [tm_sqr]
  unfold tm_tn tm_rn
  rw [if_neg h0, if_pos hw, if_pos hw, if_pos hw]
theorem tm_sqr_2 {sz : Nat → Nat} {m f a x y w h j : Nat} (h0 : ¬ (w = 0 ∨ h = 0)) (hw : ¬ h ≤ w) : tm_sqr sz m (f + 1) a x y w h j = if j < a + tm_rn sz m a w h then tm_row x y w (tm_tn sz m a w h) true (fun t => sz (a + t)) (tm_rn sz m a w h) (j - a) else tm_sqr sz m f (a + tm_rn sz m a w h) x (y + tm_tn sz m a w h) w (h - tm_tn sz m a w h) j := by
  simp only [tm_sqr]
  unfold tm_tn tm_rn
  rw [if_neg h0, if_neg hw, if_neg hw, if_neg hw]
theorem tm_rn_in {sz : Nat → Nat} {m a w h : Nat} (ham : a < m) : 1 ≤ tm_rn sz m a w h ∧ a + tm_rn sz m a w h ≤ m := by
  have := tm_rl_in (sz := fun t => sz (a + t)) (u := tm_unit w h (tm_sum (fun t => sz (a + t)) (m - a))) (s := tm_side w h) (m - a - 1) 1
  unfold tm_rn
  omega
theorem tm_wst_lt {m a n w : Nat} {kd sz : Nat → Nat} {u : UInt32} (ho : tm_ok m kd sz) (hn : 1 ≤ n) (han : a + n ≤ m) (hw : 1 ≤ w ∧ w ≤ 200) (hu : tm_pf 114 145 u) : (tm_wst (fun t => sz (a + t)) n u w).toNat < 255 * 2 ^ 23 := by
  have hs := tm_okS (a := a) (n := n) ho han
  have hp : 0 < tm_sum (fun t => sz (a + t)) n := tm_sum_pos hn (fun j hj => (hs.1 j hj).1)
  exact tm_rmax_lt hu (tm_thk_pf ⟨hp, hs.2⟩ hu hw) n hs.1
theorem tm_side_in {w h : Nat} (hw : 1 ≤ w ∧ w ≤ 200) (hh : 1 ≤ h ∧ h ≤ 200) : 1 ≤ tm_side w h ∧ tm_side w h ≤ 200 := by
  unfold tm_side
  split <;> omega
theorem tmX2_eor {N : Nat} (hN : 300 ≤ N) {P : tm_M} {m a w h : Nat} {kd sz : Nat → Nat} (ho : tm_ok m kd sz) (hk : tm_kids P m kd sz) (ham : a < m) (h2 : P 3 2 = nI w) (h3 : P 3 3 = nI h) (hw : 1 ≤ w ∧ w ≤ 200) (hh : 1 ≤ h ∧ h ≤ 200) : fX2_endOfRow N P (nI a) = some (nI (a + tm_rn sz m a w h)) := by
  have hm24 : m ≤ 24 := ho.2.1
  have hs := tm_okS (a := a) (n := m - a) ho (by omega)
  have hp : 0 < tm_sum (fun t => sz (a + t)) (m - a) := tm_sum_pos (by omega) (fun j hj => (hs.1 j hj).1)
  have hu := tm_unit_pf hw hh ⟨hp, hs.2⟩
  have hsd := tm_side_in hw hh
  generalize hU : tm_unit w h (tm_sum (fun t => sz (a + t)) (m - a)) = u at hu
  generalize hS : tm_side w h = s at hsd
  have loop : ∀ k n F, 1 ≤ n → a + n + k = m → k < F → ∃ o, tm_whl (bX2_endOfRow_41 N P (nI a) u (nI s)) F (tm_wst (fun t => sz (a + t)) n u s, nI (a + n)) = some o ∧ tm_two o (fun _ => P 0 2) (fun b => b.2) = nI (a + tm_rl (fun t => sz (a + t)) u s k n) := by
    intro k
    induction k with
    | zero =>
      intro n F hn hk0 hF
      obtain ⟨F, rfl⟩ : ∃ F', F = F' + 1 := ⟨F - 1, by omega⟩
      refine ⟨.inl (tm_wst (fun t => sz (a + t)) n u s, nI (a + n)), ?_, ?_⟩
      · simp only [tm_whl, bX2_endOfRow_41]
        rw [hk.1, if_pos (nI_le (by omega) (by omega))]
        rfl
      · simp only [tm_two, tm_rl]
        rw [hk.1]
        congr 1
        omega
    | succ k ih =>
      intro n F hn hk0 hF
      obtain ⟨F, rfl⟩ : ∃ F', F = F' + 1 := ⟨F - 1, by omega⟩
      have hw1 := tmX2_wst (a := a) (e := a + n + 1) hN ho hk (by omega) (by omega) hsd hu
      rw [show a + n + 1 - a = n + 1 by omega] at hw1
      have p1 := tm_wst_lt (a := a) (n := n + 1) ho (by omega) (by omega) hsd hu
      have p2 := tm_wst_lt (a := a) (n := n) ho (by omega) (by omega) hsd hu
      have hcmp := (tm_cmp (op := .l) p1 p2).2.1
      have hb : bX2_endOfRow_41 N P (nI a) u (nI s) (tm_wst (fun t => sz (a + t)) n u s, nI (a + n)) = if (tm_wst (fun t => sz (a + t)) (n + 1) u s).toNat ≤ (tm_wst (fun t => sz (a + t)) n u s).toNat then some (.inl (tm_wst (fun t => sz (a + t)) (n + 1) u s, nI (a + (n + 1)))) else some (.inr (.inr (tm_wst (fun t => sz (a + t)) n u s, nI (a + n)))) := by
        simp only [bX2_endOfRow_41]
        rw [hk.1, if_neg (by rw [nI_leI (by omega) (by omega)]; omega), nI_1, hw1]
        simp only [Option.bind_some, tm_nm]
        by_cases h : (tm_wst (fun t => sz (a + t)) (n + 1) u s).toNat ≤ (tm_wst (fun t => sz (a + t)) n u s).toNat
        · rw [if_pos (hcmp.mpr h), if_pos h]
          rfl
        · rw [if_neg (fun hc => h (hcmp.mp hc)), if_neg h]
      simp only [tm_whl, hb, tm_rl]
      by_cases h : (tm_wst (fun t => sz (a + t)) (n + 1) u s).toNat ≤ (tm_wst (fun t => sz (a + t)) n u s).toNat
      · rw [if_pos h, if_pos h]
        simp only [Option.bind_some]
        exact ih (n + 1) F (by omega) (by omega) (by omega)
      · rw [if_neg h, if_neg h]
        exact ⟨_, rfl, rfl⟩
  have hpps := tmX2_pps hN ho hk ham h2 h3 hw hh
  rw [hU] at hpps
  have hsE : (if (P 3 3) < (P 3 2) then (P 3 3) else (P 3 2)) = nI s := by
    rw [h2, h3, ← hS]
    unfold tm_side
    by_cases hlt : h < w
    · rw [if_pos (nI_lt hlt (by omega)), if_pos (by omega)]
    · rw [if_neg (nI_nlt (by omega) (by omega))]
      by_cases he : h ≤ w
      · rw [if_pos he]
        congr 1
        omega
      · rw [if_neg he]
  have hw1 := tmX2_wst (a := a) (e := a + 1) hN ho hk (by omega) (by omega) hsd hu
  rw [show a + 1 - a = 1 by omega] at hw1
  obtain ⟨o, l1, l2⟩ := loop (m - a - 1) 1 N (by omega) (by omega) (by omega)
  simp only [fX2_endOfRow, hpps, Option.bind_some, hsE, tm_nm, nI_1, hw1, l1]
  unfold tm_rn
  rw [hU, hS, ← l2]
  cases o <;> rfl
theorem tmX2_thk {N : Nat} (hN : 300 ≤ N) {P : tm_M} {m a n L : Nat} {kd sz : Nat → Nat} (ho : tm_ok m kd sz) (hk : tm_kids P m kd sz) (hn : 1 ≤ n) (han : a + n ≤ m) (hL : L ≤ 200) : fX2_rowThickness N P (nI a) (nI (a + n)) (nI L) = some (nI (tm_thick (fun t => sz (a + t)) (m - a) n L)) := by
  have hm24 : m ≤ 24 := ho.2.1
  have hs := tm_okS (a := a) (n := m - a) ho (by omega)
  have hs2 := tm_okS (a := a) (n := n) ho (by omega)
  have hp : 0 < tm_sum (fun t => sz (a + t)) (m - a) := tm_sum_pos (by omega) (fun j hj => (hs.1 j hj).1)
  have hA := tmX2_sumOf (a := a) (e := m) hN ho hk (by omega) (by omega)
  have hB := tmX2_sumOf (a := a) (e := a + n) hN ho hk (by omega) (by omega)
  rw [show a + n - a = n by omega] at hB
  have hq : tm_sum (fun t => sz (a + t)) n * L ≤ 2400 * 200 := Nat.mul_le_mul hs2.2 hL
  simp only [fX2_rowThickness]
  rw [hk.1, hA]
  simp only [Option.bind_some]
  unfold tm_thick
  by_cases he : n = m - a
  · rw [if_pos (nI_le (by omega) (by omega)), if_pos he]
  · rw [if_neg (by rw [nI_leI (by omega) (by omega)]; omega), if_neg he, if_pos (by rw [← nI_0]; exact nI_lt hp (by have := hs.2; omega)), hB]
    simp only [Option.bind_some]
    have h2 : (2 : Int32) = nI 2 := rfl
    have hT := hs.2
    have hT2 := hs2.2
    generalize tm_sum (fun t => sz (a + t)) (m - a) = T at *
    generalize tm_sum (fun t => sz (a + t)) n = S at *
    rw [h2, pk_mul, pk_mul, pk_mul, nI_add, tm_gT (by simp only [tm_nz, Bool.not_eq_true', decide_eq_false_iff_not]; exact nI_ne0 (by omega) (by omega)), pk_div (by rw [Nat.mul_assoc]; omega) (by omega) (by omega)]
theorem tmX2_coll {N : Nat} (hN : 300 ≤ N) {P R : tm_M} {m a x y : Nat} {kd sz : Nat → Nat} (ho : tm_ok m kd sz) (hk : tm_kids P m kd sz) (ham : a ≤ m) (h0 : P 3 0 = nI x) (h1 : P 3 1 = nI y) : ∃ R', fX2_collapse N P R (nI a) = some R' ∧ (∀ j, a ≤ j → j < m → tm_at4 (R' 1) (R' 2) (R' 3) (R' 4) (kd j) (x, y, 0, 0)) ∧ (∀ i, (∀ j, a ≤ j → j < m → kd j ≠ i) → ∀ c, R' c i = R c i) ∧ R' 0 = R 0 := by
  have hm24 : m ≤ 24 := ho.2.1
  have hl : ∃ o, tm_whl (bX2_collapse_2 N P) N (nI a, R) = some o ∧ ((∀ j, a ≤ j → j < m → tm_at4 (o.2 1) (o.2 2) (o.2 3) (o.2 4) (kd j) (x, y, 0, 0)) ∧ (∀ i, (∀ j, a ≤ j → j < m → kd j ≠ i) → ∀ c, o.2 c i = R c i) ∧ o.2 0 = R 0) := by
    refine tm_fI (I := fun k st => st.1 = nI k ∧ (∀ j, a ≤ j → j < k → tm_at4 (st.2 1) (st.2 2) (st.2 3) (st.2 4) (kd j) (x, y, 0, 0)) ∧ (∀ i, (∀ j, a ≤ j → j < k → kd j ≠ i) → ∀ c, st.2 c i = R c i) ∧ st.2 0 = R 0) a m ham ?_ ?_ (by omega) ⟨rfl, fun j h1 h2 => by omega, fun i _ c => rfl, rfl⟩
    · rintro k ⟨u, Z⟩ hak hkm ⟨hu, hz, hz2, hz3⟩
      simp only at hu hz hz2 hz3
      subst hu
      have hkd : kd k < 24 := (ho.2.2.1 k hkm).1
      obtain ⟨Z', g1, g2, g3, g4⟩ := tmX3_put (N := N) (d := Z) hkd (nI x) (nI y) 0 0
      simp only [bX2_collapse_2]
      rw [hk.1, if_neg (by rw [nI_leI (by omega) (by omega)]; omega), tm_gT (tm_inbN (by omega) (by decide)), nI_clamp (by omega), (hk.2 k hkm).1, h0, h1, g1]
      simp only [Option.bind_some, tm_nm, nI_1]
      refine ⟨_, rfl, rfl, ?_, ?_, g4.trans hz3⟩
      · intro j h1 h2
        by_cases ej : j = k
        · subst ej
          exact ⟨g2.1, g2.2.1, g2.2.2.1, g2.2.2.2⟩
        · have hne : kd j ≠ kd k := fun hh => ej (ho.2.2.2.1 j k (by omega) (by omega) hh)
          have := hz j h1 (by omega)
          simp only [tm_at4] at this ⊢
          rw [g3 _ hne, g3 _ hne, g3 _ hne, g3 _ hne]
          exact this
      · intro i' hi' c
        show Z' c i' = R c i'
        rw [g3 i' (fun hh => hi' k (by omega) (by omega) hh.symm)]
        exact hz2 i' (fun j h1 h2 => hi' j h1 (by omega)) c
    · rintro ⟨u, Z⟩ ⟨hu, hz, hz2, hz3⟩
      simp only at hu hz hz2 hz3
      subst hu
      simp only [bX2_collapse_2]
      rw [hk.1, if_pos (nI_le (by omega) (by omega))]
      exact ⟨_, rfl, hz, hz2, hz3⟩
  obtain ⟨o, g1, g2, g3, g4⟩ := hl
  refine ⟨o.2, ?_, g2, g3, g4⟩
  simp only [fX2_collapse, g1, Option.bind_some]
