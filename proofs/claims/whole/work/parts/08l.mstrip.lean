/-! the reference's strips -/
theorem tm_kidsM_eq {d e : tm_M} {m : Nat} {kd sz : Nat → Nat} (hk : tm_kidsM d m kd sz) (h0 : e 0 = d 0) (h1 : e 11 = d 11) (h2 : e 12 = d 12) : tm_kidsM e m kd sz := by
  unfold tm_kidsM
  rw [h0, h1, h2]
  exact hk
theorem tmX8_strip {N : Nat} (hN : 300 ≤ N) {d : tm_M} {g0 : Int64} {m x y w h : Nat} {kd sz : Nat → Nat} (ho : tm_ok m kd sz) (hk : tm_kidsM d m kd sz) (hw : 1 ≤ w ∧ w ≤ 200) (hh : 1 ≤ h ∧ h ≤ 200) :
    ∃ d', fX8_laysStrips N d g0 (nI x) (nI y) (nI w) (nI h) (nI (tm_sum sz m)) = some d' ∧ (∀ c, c < 4 ∨ c = 10 ∨ c = 11 ∨ c = 12 ∨ 15 ≤ c → d' c = d c) ∧ (∀ j, j < m → tm_at4 (d' 6) (d' 7) (d' 8) (d' 9) (kd j) (tm_strip sz m x y w h j)) ∧ (∀ i, (∀ j, j < m → kd j ≠ i) → ∀ c, 6 ≤ c → c < 10 → d' c i = d c i) := by
  have hm1 : 1 ≤ m := ho.1
  have hm24 : m ≤ 24 := ho.2.1
  obtain ⟨C, hC⟩ : ∃ C, C = tm_cut sz (tm_unit w h (tm_sum sz m)) w := ⟨_, rfl⟩
  have hns : tm_ns C m ≤ 24 := by have := (tm_ss_inv C m hm1).1; unfold tm_ns; omega
  have hns1 : 1 ≤ tm_ns C m := by unfold tm_ns; omega
  have hSs : tm_sum (tm_sS sz C m) (tm_ns C m) = tm_sum sz m := by rw [tm_sS_sum hm1 _ (Nat.le_refl _), tm_stN]
  have hp : 0 < tm_sum sz m := tm_sum_pos hm1 (fun j hj => (ho.2.2.1 j hj).2)
  have hle : tm_sum sz m ≤ 2400 := ho.2.2.2.2
  have hu := tm_unit_pf hw hh ⟨hp, hle⟩
  -- the division into strips
  have hl1 : ∃ o, tm_whl (bX8_laysStrips_24 N g0 (nI w) (tm_unit w h (tm_sum sz m))) N (nI 1, nI 1, tm_upc d 13 (upd (d 13) 0 0)) = some o ∧ (o.1 = nI (tm_ns C m) ∧ (∀ c, c ≠ 13 → o.2.2 c = d c) ∧ ∀ i, i < tm_ns C m → o.2.2 13 i = nI (tm_st C m i)) := by
    refine tm_fI (I := fun k st => st.1 = nI (tm_no C k + 1) ∧ st.2.1 = nI k ∧ (∀ c, c ≠ 13 → st.2.2 c = d c) ∧ ∀ i, i ≤ tm_no C k → st.2.2 13 i = nI (tm_sp C k i)) 1 m hm1 ?_ ?_ (by omega) ⟨rfl, rfl, fun c hc => tm_ucN hc, fun i hi => ?_⟩
    · rintro k ⟨n, y', Q⟩ hk1 hkm ⟨hn, hy, hq, hi⟩
      simp only at hn hy hq hi
      subst hn hy
      obtain ⟨i1, i2, i3, i4⟩ := tm_ss_inv C k hk1
      have hkQ : tm_kidsM Q m kd sz := tm_kidsM_eq hk (hq 0 (by decide)) (hq 11 (by decide)) (hq 12 (by decide))
      have hsub : nI (tm_no C k + 1) - 1 = nI (tm_no C k) := nI_pred _
      simp only [bX8_laysStrips_24]
      rw [hkQ.1, if_neg (by rw [nI_leI (by omega) (by omega)]; omega), hsub, tm_gT (tm_inbN (by omega) (by decide)), nI_clamp (show tm_no C k < 2 ^ 31 by omega), hi _ (Nat.le_refl _)]
      simp only [tm_nm, nI_1]
      rw [pk_sub (show tm_sp C k (tm_no C k) ≤ k + 1 by omega), pk_sub (show tm_sp C k (tm_no C k) ≤ k by omega), tmX8_avg hN ho hkQ (by omega) (by omega) hw hu, tmX8_avg hN ho hkQ (by omega) (by omega) hw hu]
      simp only [Option.bind_some]
      have a1 := tm_okS (a := tm_sp C k (tm_no C k)) (n := k + 1 - tm_sp C k (tm_no C k)) ho (by omega)
      have a2 := tm_okS (a := tm_sp C k (tm_no C k)) (n := k - tm_sp C k (tm_no C k)) ho (by omega)
      have p1 := tm_pf_lt (tm_avg_pf hu hw ⟨by omega, by omega⟩ a1.1 a1.2) (by decide)
      have p2 := tm_pf_lt (tm_avg_pf hu hw ⟨by omega, by omega⟩ a2.1 a2.2) (by decide)
      have hcmp := (tm_cmp (op := .g) p1 p2).2.1
      by_cases hc : C (tm_sp C k (tm_no C k)) k = true
      · have hc' := hc
        rw [hC] at hc'
        simp only [tm_cut, decide_eq_true_eq] at hc'
        rw [← hC] at hc'
        rw [if_neg (fun hle => by have := hcmp.mp hle; omega), tm_gT (tm_inbN (show tm_no C k + 1 < 25 by omega) (by decide)), nI_clamp (show tm_no C k + 1 < 2 ^ 31 by omega)]
        obtain ⟨e1, e2⟩ := tm_ssT hk1 hc
        refine ⟨_, rfl, ?_, rfl, fun c hc => by simp only; rw [tm_ucN hc]; exact hq c hc, ?_⟩
        · simp only
          rw [e1]
        · intro i h'
          rw [e1] at h'
          simp only [tm_ucE]
          rw [e2]
          by_cases ei : i = tm_no C k + 1
          · subst ei
            rw [pk_us, if_pos rfl]
          · rw [pk_un ei, if_neg ei]
            exact hi i (by omega)
      · have hc' := hc
        rw [hC] at hc'
        simp only [tm_cut, decide_eq_true_eq] at hc'
        rw [← hC] at hc'
        rw [if_pos (hcmp.mpr (by omega))]
        obtain ⟨e1, e2⟩ := tm_ssF hk1 hc
        refine ⟨_, rfl, ?_, rfl, hq, ?_⟩
        · simp only
          rw [e1]
        · intro i h'
          rw [e1] at h'
          simp only
          rw [e2]
          exact hi i h'
    · rintro ⟨n, y', Q⟩ ⟨hn, hy, hq, hi⟩
      simp only at hn hy hq hi
      subst hn hy
      have hkQ : tm_kidsM Q m kd sz := tm_kidsM_eq hk (hq 0 (by decide)) (hq 11 (by decide)) (hq 12 (by decide))
      simp only [bX8_laysStrips_24]
      rw [hkQ.1, if_pos (by rw [nI_leI (by omega) (by omega)]; omega)]
      refine ⟨_, rfl, rfl, hq, fun i h' => ?_⟩
      simp only [tm_ns] at h'
      simp only
      rw [hi i (by omega)]
      exact congrArg nI (if_pos (show i ≤ tm_no C m by omega)).symm
    · have e0 : i = 0 := by
        have : i ≤ 0 := hi
        omega
      subst e0
      simp only [tm_ucE]
      exact pk_us
  obtain ⟨⟨n1, k1, Q⟩, l1, l2, l3, l4⟩ := hl1
  simp only at l2 l3 l4
  subst l2
  -- with its end
  obtain ⟨Q2, hQ2⟩ : ∃ Q2, Q2 = tm_upc Q 13 (upd (Q 13) (tm_ns C m) (Q 0 13)) := ⟨_, rfl⟩
  have q2c : ∀ c, c ≠ 13 → Q2 c = d c := fun c hc => by rw [hQ2, tm_ucN hc]; exact l3 c hc
  have q213 : ∀ i, i ≤ tm_ns C m → Q2 13 i = nI (tm_st C m i) := by
    intro i hi
    rw [hQ2, tm_ucE]
    by_cases ei : i = tm_ns C m
    · subst ei
      rw [pk_us, tm_stN, l3 0 (by decide)]
      exact hk.1
    · rw [pk_un ei]
      exact l4 i (by omega)
  -- the sizes of the strips
  have hl2 : ∃ o, tm_whl (bX8_laysStrips_110 N g0 (nI (tm_ns C m))) N (nI 0, Q2) = some o ∧ ((∀ c, c ≠ 4 → o.2 c = Q2 c) ∧ ∀ i, i < tm_ns C m → o.2 4 i = nI (tm_sS sz C m i)) := by
    refine tm_fI (I := fun n st => st.1 = nI n ∧ (∀ c, c ≠ 4 → st.2 c = Q2 c) ∧ ∀ i, i < n → st.2 4 i = nI (tm_sS sz C m i)) 0 (tm_ns C m) (by omega) ?_ ?_ (by omega) ⟨rfl, fun c _ => rfl, fun i hi => by omega⟩
    · rintro n ⟨u, Z⟩ _ hn ⟨hu', hz, hi⟩
      simp only at hu' hz hi
      subst hu'
      obtain ⟨s1, s2⟩ := tm_st_lt (C := C) hm1 hn
      have hkZ : tm_kidsM Z m kd sz := tm_kidsM_eq hk (by rw [hz 0 (by decide)]; exact q2c 0 (by decide)) (by rw [hz 11 (by decide)]; exact q2c 11 (by decide)) (by rw [hz 12 (by decide)]; exact q2c 12 (by decide))
      simp only [bX8_laysStrips_110]
      rw [if_neg (by rw [nI_leI (by omega) (by omega)]; omega), tm_gT (tm_inbN (show n < 25 by omega) (by decide)), nI_1, tm_gT (tm_inbN (show n + 1 < 25 by omega) (by decide)), nI_clamp (show n < 2 ^ 31 by omega), nI_clamp (show n + 1 < 2 ^ 31 by omega), hz 13 (by decide), q213 n (by omega), q213 (n + 1) (by omega), pk_sub (by omega), tmX8_sumOf hN ho hkZ (by omega)]
      simp only [Option.bind_some, tm_nm]
      rw [tm_gT (tm_inbN (show n < 24 by omega) (by decide))]
      refine ⟨_, rfl, rfl, fun c hc => by simp only; rw [tm_ucN hc]; exact hz c hc, fun i h' => ?_⟩
      simp only [tm_ucE]
      by_cases ei : i = n
      · subst ei
        rw [pk_us]
        rfl
      · rw [pk_un ei]
        exact hi i (by omega)
    · rintro ⟨u, Z⟩ ⟨hu', hz, hi⟩
      simp only at hu' hz hi
      subst hu'
      simp only [bX8_laysStrips_110]
      rw [if_pos (by rw [nI_leI (by omega) (by omega)]; omega)]
      exact ⟨_, rfl, hz, hi⟩
  obtain ⟨⟨u2, Q3⟩, m1, m2, m3⟩ := hl2
  simp only at m2 m3
  -- their heights
  obtain ⟨Q4, a1, a2, a3⟩ := tmX8_parts (N := N) (g0 := g0) (d := Q3) (m := tm_ns C m) (L := h) (s := tm_sS sz C m) hN hns1 hns m3 (by omega) (by omega) (Nat.lt_of_le_of_lt (Nat.mul_le_mul (show tm_sum (tm_sS sz C m) (tm_ns C m) ≤ 2400 by omega) hh.2) (by decide)) (by omega)
  generalize hhs : tm_app (tm_sS sz C m) (tm_ns C m) h = hs at *
  have hhle : ∀ i, i < tm_ns C m → hs i ≤ 200 := fun i hi => by
    rw [← hhs]
    exact Nat.le_trans (tm_app_le hi (by omega)) hh.2
  have hl3 : ∃ o, tm_whl (bX8_laysStrips_169 N (nI (tm_ns C m))) N (nI 0, Q4) = some o ∧ ((∀ c, c ≠ 14 → o.2 c = Q4 c) ∧ ∀ i, i < tm_ns C m → o.2 14 i = nI (hs i)) := by
    refine tm_fI (I := fun n st => st.1 = nI n ∧ (∀ c, c ≠ 14 → st.2 c = Q4 c) ∧ ∀ i, i < n → st.2 14 i = nI (hs i)) 0 (tm_ns C m) (by omega) ?_ ?_ (by omega) ⟨rfl, fun c _ => rfl, fun i hi => by omega⟩
    · rintro n ⟨u, Z⟩ _ hn ⟨hu', hz, hi⟩
      simp only at hu' hz hi
      subst hu'
      simp only [bX8_laysStrips_169]
      rw [if_neg (by rw [nI_leI (by omega) (by omega)]; omega), tm_gT (tm_inbN (show n < 24 by omega) (by decide)), nI_clamp (show n < 2 ^ 31 by omega), hz 5 (by decide), a2 n hn]
      simp only [tm_nm, nI_1]
      refine ⟨_, rfl, rfl, fun c hc => by simp only; rw [tm_ucN hc]; exact hz c hc, fun i h' => ?_⟩
      simp only [tm_ucE]
      by_cases ei : i = n
      · subst ei
        rw [pk_us]
      · rw [pk_un ei]
        exact hi i (by omega)
    · rintro ⟨u, Z⟩ ⟨hu', hz, hi⟩
      simp only at hu' hz hi
      subst hu'
      simp only [bX8_laysStrips_169]
      rw [if_pos (by rw [nI_leI (by omega) (by omega)]; omega)]
      exact ⟨_, rfl, hz, hi⟩
  obtain ⟨⟨u3, Q5⟩, b1, b2, b3⟩ := hl3
  simp only at b2 b3
  have q5c : ∀ c, c ≠ 4 → c ≠ 5 → c ≠ 13 → c ≠ 14 → Q5 c = d c := fun c h4 h5 h13 h14 => by rw [b2 c h14, a3 c h5, m2 c h4]; exact q2c c h13
  have q513 : ∀ i, i ≤ tm_ns C m → Q5 13 i = nI (tm_st C m i) := fun i hi => by rw [b2 13 (by decide), a3 13 (by decide), m2 13 (by decide)]; exact q213 i hi
  -- laid
  have hl4 : ∃ o, tm_whl (bX8_laysStrips_202 N g0 (nI x) (nI w) (nI (tm_ns C m))) N (nI (y + tm_sum hs 0), nI 0, Q5) = some o ∧ ((∀ c, c < 4 ∨ c = 10 ∨ c = 11 ∨ c = 12 ∨ 15 ≤ c → o.2.2 c = d c) ∧ (∀ i, i < tm_ns C m → ∀ j, tm_st C m i ≤ j → j < tm_st C m (i + 1) → tm_at4 (o.2.2 6) (o.2.2 7) (o.2.2 8) (o.2.2 9) (kd j) (tm_row x (y + tm_sum hs i) w (hs i) true (fun t => sz (tm_st C m i + t)) (tm_st C m (i + 1) - tm_st C m i) (j - tm_st C m i))) ∧ (∀ i', (∀ j, j < m → kd j ≠ i') → ∀ c, 6 ≤ c → c < 10 → o.2.2 c i' = d c i')) := by
    refine tm_fI (I := fun n st => st.1 = nI (y + tm_sum hs n) ∧ st.2.1 = nI n ∧ (∀ c, c < 4 ∨ 10 ≤ c → st.2.2 c = Q5 c) ∧ (∀ i, i < n → ∀ j, tm_st C m i ≤ j → j < tm_st C m (i + 1) → tm_at4 (st.2.2 6) (st.2.2 7) (st.2.2 8) (st.2.2 9) (kd j) (tm_row x (y + tm_sum hs i) w (hs i) true (fun t => sz (tm_st C m i + t)) (tm_st C m (i + 1) - tm_st C m i) (j - tm_st C m i))) ∧ (∀ i', (∀ j, j < tm_st C m n → kd j ≠ i') → ∀ c, 6 ≤ c → c < 10 → st.2.2 c i' = d c i')) 0 (tm_ns C m) (by omega) ?_ ?_ (by omega) ⟨rfl, rfl, fun c _ => rfl, fun i hi => by omega, fun i' _ c h6 h10 => by simp only; rw [q5c c (by omega) (by omega) (by omega) (by omega)]⟩
    · rintro n ⟨u1, u2, Z⟩ _ hn ⟨e1, e2, hz, hr, hf⟩
      simp only at e1 e2 hz hr hf
      subst e1 e2
      obtain ⟨s1, s2⟩ := tm_st_lt (C := C) hm1 hn
      have hzd : ∀ c, c < 4 ∨ c = 10 ∨ c = 11 ∨ c = 12 → Z c = d c := fun c hc => by rw [hz c (by omega)]; exact q5c c (by omega) (by omega) (by omega) (by omega)
      have hkZ : tm_kidsM Z m kd sz := tm_kidsM_eq hk (hzd 0 (by omega)) (hzd 11 (by omega)) (hzd 12 (by omega))
      obtain ⟨Z', f1, f2, f3, f4⟩ := tmX8_row (N := N) (g0 := g0) (d := Z) (x := x) (y := y + tm_sum hs n) (w := w) (h := hs n) (bs := true) (b := 1) (a := tm_st C m n) (n := tm_st C m (n + 1) - tm_st C m n) hN rfl ho hkZ (by omega) (by omega) hw.2 (hhle n hn)
      rw [show tm_st C m n + (tm_st C m (n + 1) - tm_st C m n) = tm_st C m (n + 1) by omega] at f3 f4
      have z14 : Z 14 n = nI (hs n) := by rw [hz 14 (by omega)]; exact b3 n hn
      have z14' : Z' 14 n = nI (hs n) := by rw [f2 14 (by omega)]; exact z14
      simp only [bX8_laysStrips_202]
      rw [if_neg (by rw [nI_leI (by omega) (by omega)]; omega), tm_gT (tm_inbN (show n < 25 by omega) (by decide)), nI_1, tm_gT (tm_inbN (show n + 1 < 25 by omega) (by decide)), tm_gT (tm_inbN (show n < 24 by omega) (by decide)), nI_clamp (show n < 2 ^ 31 by omega), nI_clamp (show n + 1 < 2 ^ 31 by omega), hz 13 (by omega), q513 n (by omega), q513 (n + 1) (by omega), pk_sub (by omega), z14, f1]
      simp only [Option.bind_some, tm_nm, z14', nI_add]
      refine ⟨_, rfl, ?_, rfl, ?_, ?_, ?_⟩
      · simp only [tm_sum, Nat.add_assoc]
      · intro c hc
        simp only
        rw [f2 c (by omega)]
        exact hz c hc
      · intro i hi j hj1 hj2
        simp only
        by_cases ei : i = n
        · subst ei
          exact f3 j hj1 hj2
        · have hlt : tm_st C m (i + 1) ≤ tm_st C m n := by
            have key : ∀ q, i + 1 + q ≤ n → tm_st C m (i + 1) ≤ tm_st C m (i + 1 + q) := by
              intro q
              induction q with
              | zero => intro _; exact Nat.le_refl _
              | succ q ih =>
                intro hq
                have a := ih (by omega)
                have b := (tm_st_lt (C := C) hm1 (show i + 1 + q < tm_ns C m by omega)).1
                rw [← Nat.add_assoc]
                omega
            have := key (n - (i + 1)) (by omega)
            rwa [show i + 1 + (n - (i + 1)) = n by omega] at this
          have hne : ∀ j', tm_st C m n ≤ j' → j' < tm_st C m (n + 1) → kd j' ≠ kd j := fun j' g1 g2 hh => by
            have := ho.2.2.2.1 j' j (by omega) (by omega) hh
            omega
          have := hr i (by omega) j hj1 hj2
          simp only [tm_at4] at this ⊢
          rw [f4 _ hne 6 (by omega), f4 _ hne 7 (by omega), f4 _ hne 8 (by omega), f4 _ hne 9 (by omega)]
          exact this
      · intro i' hi' c h6 h10
        simp only
        rw [f4 i' (fun j g1 g2 => hi' j (by omega)) c h6]
        exact hf i' (fun j g => hi' j (by omega)) c h6 h10
    · rintro ⟨u1, u2, Z⟩ ⟨e1, e2, hz, hr, hf⟩
      simp only at e1 e2 hz hr hf
      subst e1 e2
      simp only [bX8_laysStrips_202]
      rw [if_pos (by rw [nI_leI (by omega) (by omega)]; omega)]
      refine ⟨_, rfl, fun c hc => ?_, hr, fun i' hi' => hf i' (fun j hj => hi' j ?_)⟩
      · simp only
        rw [hz c (by omega)]
        exact q5c c (by omega) (by omega) (by omega) (by omega)
      · rw [tm_stN] at hj
        exact hj
  obtain ⟨o, g1, g2, g3, g4⟩ := hl4
  refine ⟨o.2.2, ?_, g2, ?_, g4⟩
  · simp only [fX8_laysStrips]
    rw [pk_mul]
    have hun : FP.fdiv (FP.i2f (nI (w * h))) (FP.i2f (nI (tm_sum sz m))) = tm_unit w h (tm_sum sz m) := rfl
    rw [hun, tm_gT (tm_pf_nn hu (by decide))]
    simp only [tm_nm]
    rw [show ((1 : Int32), (1 : Int32), tm_upc d 13 (upd (d 13) (0 : Int32).toNatClampNeg 0)) = (nI 1, nI 1, tm_upc d 13 (upd (d 13) 0 0)) from rfl, l1]
    simp only [Option.bind_some]
    rw [tm_gT (tm_inbN (show tm_ns C m < 25 by omega) (by decide)), nI_clamp (show tm_ns C m < 2 ^ 31 by omega), ← hQ2, show (0 : Int32) = nI 0 from rfl, m1]
    simp only [Option.bind_some]
    rw [a1]
    simp only [Option.bind_some]
    rw [b1]
    simp only [Option.bind_some]
    rw [show tm_sum hs 0 = 0 from rfl, Nat.add_zero] at g1
    rw [g1]
    rfl
  · intro j hj
    obtain ⟨s1, s2, s3⟩ := tm_si_in (C := C) hj
    have := g3 _ s1 j s2 s3
    unfold tm_strip
    rw [← hC, hhs]
    exact this
