/-! the class's strips -/
theorem tm_kids_eq {P Q : tm_M} {m : Nat} {kd sz : Nat → Nat} (hk : tm_kids P m kd sz) (h0 : Q 0 = P 0) (h1 : Q 1 = P 1) (h2 : Q 2 = P 2) : tm_kids Q m kd sz := by
  unfold tm_kids
  rw [h0, h1, h2]
  exact hk
theorem tmX2_rec {N : Nat} (hN : 300 ≤ N) {Q : tm_M} {m c a e : Nat} {kd sz : Nat → Nat} (hc : c < 24) (ho : tm_ok m kd sz) (hk : tm_kids Q m kd sz) (hq : Q 9 3 = nI c) (hae : a ≤ e) (hem : e ≤ m) :
    ∃ Q' : tm_M, (tm_nm (tm_upc Q 13 (upd (Q 13) (Q 9 3).toNatClampNeg (nI e))) fun d0_7 => (fX2_sumOfSizes N d0_7 (nI a) (nI e)).bind fun t_8 => ((fX4_add N (tm_sh d0_7 9) t_8).bind fun t_9 => (tm_nm (tm_ins d0_7 9 4 t_9) fun d0_10 => tm_nm (nI e + 1) fun x_11 => (some (Sum.inl (nI e, x_11, d0_10)) : Option ((Int32 × Int32 × tm_M) ⊕ (Int32 × Int32 × tm_M)))))) = some (.inl (nI e, nI (e + 1), Q')) ∧ (∀ c', c' < 9 → Q' c' = Q c') ∧ Q' 9 3 = nI (c + 1) ∧ Q' 13 c = nI e ∧ Q' 10 c = nI (tm_sum (fun t => sz (a + t)) (e - a)) ∧ (∀ i, i ≠ c → Q' 13 i = Q 13 i ∧ Q' 10 i = Q 10 i) := by
  have hkk : tm_kids (tm_upc Q 13 (upd (Q 13) c (nI e))) m kd sz := tm_kids_eq hk (tm_ucN (by decide)) (tm_ucN (by decide)) (tm_ucN (by decide))
  obtain ⟨d', g1, g2, g3, g4, g5⟩ := tmX4_add (N := N) (d := tm_sh (tm_upc Q 13 (upd (Q 13) c (nI e))) 9) (n := c) hc (by show tm_upc Q 13 _ 9 3 = _; rw [tm_ucN (by decide)]; exact hq) (nI (tm_sum (fun t => sz (a + t)) (e - a)))
  rw [hq, nI_clamp (by omega)]
  simp only [tm_nm, tmX2_sumOf hN ho hkk hae hem, Option.bind_some, g1, nI_1]
  refine ⟨_, rfl, ?_, g2, ?_, g3, ?_⟩
  · intro c' h'
    rw [tm_inN (by omega), tm_ucN (by omega)]
  · show tm_ins _ 9 4 d' 13 c = _
    rw [tm_inN (by omega), tm_ucE, pk_us]
  · intro i hi
    refine ⟨?_, ?_⟩
    · rw [tm_inN (by omega), tm_ucE, pk_un hi]
    · show d' 1 i = _
      rw [g4 i hi]
      show tm_upc Q 13 _ 10 i = _
      rw [tm_ucN (by decide)]
theorem tmX2_split {N : Nat} (hN : 300 ≤ N) {P : tm_M} {m w h : Nat} {kd sz : Nat → Nat} (ho : tm_ok m kd sz) (hk : tm_kids P m kd sz) (h2 : P 3 2 = nI w) (h3 : P 3 3 = nI h) (hw : 1 ≤ w ∧ w ≤ 200) (hh : 1 ≤ h ∧ h ≤ 200) {C : Nat → Nat → Bool} (hC : C = tm_cut sz (tm_unit w h (tm_sum sz m)) w) :
    ∃ Q, fX2_splitIntoStrips N P = some Q ∧ (∀ c, c < 9 → Q c = P c) ∧ Q 9 3 = nI (tm_ns C m) ∧ ∀ i, i < tm_ns C m → Q 13 i = nI (tm_st C m (i + 1)) ∧ Q 10 i = nI (tm_sS sz C m i) := by
  have hm1 : 1 ≤ m := ho.1
  have hm24 : m ≤ 24 := ho.2.1
  have hsz : (fun t => sz (0 + t)) = sz := by funext t; rw [Nat.zero_add]
  have hS := tm_okS (a := 0) (n := m) ho (by omega)
  rw [hsz] at hS
  have hp : 0 < tm_sum sz m := tm_sum_pos hm1 (fun j hj => by have := (hS.1 j hj).1; rwa [Nat.zero_add] at this)
  have hu := tm_unit_pf hw hh ⟨hp, hS.2⟩
  have hpps := tmX2_pps hN ho hk (show 0 < m by omega) h2 h3 hw hh
  rw [hsz, Nat.sub_zero] at hpps
  have hloop : ∃ o, tm_whl (bX2_splitIntoStrips_17 N (tm_unit w h (tm_sum sz m))) N (0, 1, tm_ins P 9 4 (tm_upk (tm_sh P 9) 0 3 0)) = some o ∧ ((∀ c, c < 9 → o.2.2 c = P c) ∧ o.2.2 9 3 = nI (tm_ns C m) ∧ ∀ i, i < tm_ns C m → o.2.2 13 i = nI (tm_st C m (i + 1)) ∧ o.2.2 10 i = nI (tm_sS sz C m i)) := by
    refine tm_fI (I := fun k st => st.2.1 = nI k ∧ (∀ c, c < 9 → st.2.2 c = P c) ∧ ((k ≤ m ∧ st.1 = nI (tm_sp C k (tm_no C k)) ∧ st.2.2 9 3 = nI (tm_no C k) ∧ ∀ i, i < tm_no C k → st.2.2 13 i = nI (tm_sp C k (i + 1)) ∧ st.2.2 10 i = nI (tm_sum (fun t => sz (tm_sp C k i + t)) (tm_sp C k (i + 1) - tm_sp C k i))) ∨ (k = m + 1 ∧ st.2.2 9 3 = nI (tm_ns C m) ∧ ∀ i, i < tm_ns C m → st.2.2 13 i = nI (tm_st C m (i + 1)) ∧ st.2.2 10 i = nI (tm_sS sz C m i)))) 1 (m + 1) (by omega) ?_ ?_ (by omega) ⟨rfl, fun c hc => tm_inN (by omega), Or.inl ⟨hm1, rfl, ?_, fun i hi => absurd hi (by show ¬ i < 0; omega)⟩⟩
    · rintro k ⟨x, y, Q⟩ hk1 hk2 ⟨hy, hq, hcase⟩
      simp only at hy hq hcase
      subst hy
      rcases hcase with ⟨hkm, hx, hq9, hqi⟩ | ⟨hkm, _⟩
      · subst hx
        obtain ⟨i1, i2, i3, i4⟩ := tm_ss_inv C k hk1
        have hkQ : tm_kids Q m kd sz := tm_kids_eq hk (hq 0 (by omega)) (hq 1 (by omega)) (hq 2 (by omega))
        have q02 : Q 0 2 = nI m := hkQ.1
        have q32 : Q 3 2 = nI w := by rw [hq 3 (by omega)]; exact h2
        obtain ⟨Q', r1, r2, r3, r4, r5, r6⟩ := tmX2_rec (N := N) (Q := Q) (c := tm_no C k) (a := tm_sp C k (tm_no C k)) (e := k) hN (by omega) ho hkQ hq9 (by omega) hkm
        simp only [bX2_splitIntoStrips_17]
        rw [q02, if_neg (by rw [nI_ltI (by omega) (by omega)]; omega)]
        by_cases hkm2 : k = m
        · subst hkm2
          rw [if_pos rfl, if_neg (by rw [hq9, show (24 : Int32) = nI 24 from rfl, nI_leI (by omega) (by omega)]; omega), tm_gT (by rw [hq9]; exact tm_inbN (by omega) (by decide)), r1]
          refine ⟨_, rfl, rfl, fun c hc => by simp only; rw [r2 c hc]; exact hq c hc, Or.inr ⟨rfl, r3, ?_⟩⟩
          intro i hi
          simp only [tm_ns] at hi
          by_cases ei : i = tm_no C k
          · subst ei
            refine ⟨?_, ?_⟩
            · simp only
              rw [r4]
              exact congrArg nI (tm_stN C k).symm
            · simp only
              rw [r5]
              unfold tm_sS
              rw [show tm_st C k (tm_no C k + 1) = k from tm_stN C k, show tm_st C k (tm_no C k) = tm_sp C k (tm_no C k) from if_pos (Nat.le_refl _)]
          · simp only
            rw [(r6 i ei).1, (r6 i ei).2, (hqi i (by omega)).1, (hqi i (by omega)).2]
            unfold tm_sS tm_st
            rw [if_pos (show i + 1 ≤ tm_no C k by omega), if_pos (show i ≤ tm_no C k by omega)]
            exact ⟨rfl, rfl⟩
        · rw [if_neg (by rw [nI_eq (by omega) (by omega)]; exact hkm2), nI_1, tmX2_avg hN ho hkQ (by omega) (by omega) q32 hw hu, tmX2_avg hN ho hkQ (by omega) hkm q32 hw hu]
          simp only [Option.bind_some]
          have a1 := tm_okS (a := tm_sp C k (tm_no C k)) (n := k + 1 - tm_sp C k (tm_no C k)) ho (by omega)
          have a2 := tm_okS (a := tm_sp C k (tm_no C k)) (n := k - tm_sp C k (tm_no C k)) ho (by omega)
          have p1 := tm_pf_lt (tm_avg_pf hu hw ⟨by omega, by omega⟩ a1.1 a1.2) (by decide)
          have p2 := tm_pf_lt (tm_avg_pf hu hw ⟨by omega, by omega⟩ a2.1 a2.2) (by decide)
          have hcmp := (tm_cmp (op := .l) p1 p2).2.1
          by_cases hc : C (tm_sp C k (tm_no C k)) k = true
          · have hc' := hc
            rw [hC] at hc'
            simp only [tm_cut, decide_eq_true_eq] at hc'
            rw [← hC] at hc'
            have r1' := r1
            rw [nI_1] at r1'
            rw [if_neg (fun hle => by have := hcmp.mp hle; omega), if_neg (by rw [hq9, show (24 : Int32) = nI 24 from rfl, nI_leI (by omega) (by omega)]; omega), tm_gT (by rw [hq9]; exact tm_inbN (by omega) (by decide)), r1']
            obtain ⟨e1, e2⟩ := tm_ssT hk1 hc
            refine ⟨_, rfl, rfl, fun c hc => by simp only; rw [r2 c hc]; exact hq c hc, Or.inl ⟨by omega, ?_, ?_, ?_⟩⟩
            · simp only
              rw [e1, e2, if_pos rfl]
            · simp only
              rw [r3, e1]
            · intro i hi
              rw [e1] at hi
              simp only
              rw [e2 i, e2 (i + 1)]
              by_cases ei : i = tm_no C k
              · subst ei
                rw [r4, r5, if_pos rfl, if_neg (by omega)]
                exact ⟨rfl, rfl⟩
              · rw [(r6 i ei).1, (r6 i ei).2, (hqi i (by omega)).1, (hqi i (by omega)).2, if_neg (by omega), if_neg (by omega)]
                exact ⟨rfl, rfl⟩
          · have hc' := hc
            rw [hC] at hc'
            simp only [tm_cut, decide_eq_true_eq] at hc'
            rw [← hC] at hc'
            rw [if_pos (hcmp.mpr (by omega))]
            simp only [tm_nm]
            obtain ⟨e1, e2⟩ := tm_ssF hk1 hc
            refine ⟨_, rfl, rfl, hq, Or.inl ⟨by omega, ?_, ?_, ?_⟩⟩
            · simp only
              rw [e1, e2]
            · simp only
              rw [hq9, e1]
            · intro i hi
              rw [e1] at hi
              simp only
              rw [e2 i, e2 (i + 1)]
              exact hqi i hi
      · omega
    · rintro ⟨x, y, Q⟩ ⟨hy, hq, hcase⟩
      simp only at hy hq hcase
      subst hy
      rcases hcase with ⟨hkm, _⟩ | ⟨_, h9, hi⟩
      · omega
      · have q02 : Q 0 2 = nI m := by rw [hq 0 (by omega)]; exact hk.1
        simp only [bX2_splitIntoStrips_17]
        rw [q02, if_pos (by rw [nI_ltI (by omega) (by omega)]; omega)]
        exact ⟨_, rfl, hq, h9, hi⟩
    · show tm_upk (tm_sh P 9) 0 3 0 0 3 = _
      rw [tm_ukE]
      rfl
  obtain ⟨o, g1, g2, g3, g4⟩ := hloop
  refine ⟨o.2.2, ?_, g2, g3, g4⟩
  simp only [fX2_splitIntoStrips]
  rw [show fX2_pixelsPerSize N P (0 : Int32) = some (tm_unit w h (tm_sum sz m)) from hpps]
  simp only [Option.bind_some, show fX4_clear N (tm_sh P 9) = some (tm_upk (tm_sh P 9) 0 3 0) from rfl, tm_nm, g1]
theorem tmX0_set {N : Nat} (d : tm_M) (a b c e : Int32) : ∃ d', fX0_set N d a b c e = some d' ∧ d' 0 0 = a ∧ d' 0 1 = b ∧ d' 0 2 = c ∧ d' 0 3 = e := ⟨_, rfl, rfl, rfl, rfl, rfl⟩
theorem tmX2_strip {N : Nat} (hN : 300 ≤ N) {P R : tm_M} {m x y w h : Nat} {kd sz : Nat → Nat} (ho : tm_ok m kd sz) (hk : tm_kids P m kd sz) (h0 : P 3 0 = nI x) (h1 : P 3 1 = nI y) (h2 : P 3 2 = nI w) (h3 : P 3 3 = nI h) (hw : 1 ≤ w ∧ w ≤ 200) (hh : 1 ≤ h ∧ h ≤ 200) :
    ∃ P' R', fX2_strip N P R = some (P', R') ∧ (∀ j, j < m → tm_at4 (R' 1) (R' 2) (R' 3) (R' 4) (kd j) (tm_strip sz m x y w h j)) ∧ (∀ i, (∀ j, j < m → kd j ≠ i) → ∀ c, R' c i = R c i) ∧ R' 0 = R 0 := by
  have hm1 : 1 ≤ m := ho.1
  have hm24 : m ≤ 24 := ho.2.1
  obtain ⟨C, hC⟩ : ∃ C, C = tm_cut sz (tm_unit w h (tm_sum sz m)) w := ⟨_, rfl⟩
  obtain ⟨Q, q1, q2, q3, q4⟩ := tmX2_split hN ho hk h2 h3 hw hh hC
  have hns : tm_ns C m ≤ 24 := by have := (tm_ss_inv C m hm1).1; unfold tm_ns; omega
  have hns1 : 1 ≤ tm_ns C m := by unfold tm_ns; omega
  have hSs : tm_sum (tm_sS sz C m) (tm_ns C m) = tm_sum sz m := by rw [tm_sS_sum hm1 _ (Nat.le_refl _), tm_stN]
  have hp : 0 < tm_sum sz m := tm_sum_pos hm1 (fun j hj => (ho.2.2.1 j hj).2)
  have hle : tm_sum sz m ≤ 2400 := ho.2.2.2.2
  have q33 : Q 3 3 = nI h := by rw [q2 3 (by omega)]; exact h3
  obtain ⟨d', a1, a2, a3⟩ := tmX4_app (N := N) (d := tm_sh Q 9) (m := tm_ns C m) (L := h) (s := tm_sS sz C m) hN hns1 hns q3 (fun j hj => (q4 j hj).2) (by omega) (by omega) (Nat.lt_of_le_of_lt (Nat.mul_le_mul (show tm_sum (tm_sS sz C m) (tm_ns C m) ≤ 2400 by omega) hh.2) (by decide)) (by omega)
  generalize hhs : tm_app (tm_sS sz C m) (tm_ns C m) h = hs at *
  have hhle : ∀ i, i < tm_ns C m → hs i ≤ 200 := fun i hi => by
    rw [← hhs]
    exact Nat.le_trans (tm_app_le hi (by omega)) hh.2
  have hloop : ∃ o, tm_whl (bX2_strip_31 N) N (nI (tm_st C m 0), nI (y + tm_sum hs 0), nI 0, tm_ins Q 9 4 d', R) = some o ∧ ((∀ i, i < tm_ns C m → ∀ j, tm_st C m i ≤ j → j < tm_st C m (i + 1) → tm_at4 (o.2.2.2.2 1) (o.2.2.2.2 2) (o.2.2.2.2 3) (o.2.2.2.2 4) (kd j) (tm_row x (y + tm_sum hs i) w (hs i) true (fun t => sz (tm_st C m i + t)) (tm_st C m (i + 1) - tm_st C m i) (j - tm_st C m i))) ∧ (∀ i', (∀ j, j < m → kd j ≠ i') → ∀ c, o.2.2.2.2 c i' = R c i') ∧ o.2.2.2.2 0 = R 0) := by
    refine tm_fI (I := fun n st => st.1 = nI (tm_st C m n) ∧ st.2.1 = nI (y + tm_sum hs n) ∧ st.2.2.1 = nI n ∧ (∀ c, (c < 4 ∨ 9 ≤ c) → st.2.2.2.1 c = tm_ins Q 9 4 d' c) ∧ (∀ i, i < n → ∀ j, tm_st C m i ≤ j → j < tm_st C m (i + 1) → tm_at4 (st.2.2.2.2 1) (st.2.2.2.2 2) (st.2.2.2.2 3) (st.2.2.2.2 4) (kd j) (tm_row x (y + tm_sum hs i) w (hs i) true (fun t => sz (tm_st C m i + t)) (tm_st C m (i + 1) - tm_st C m i) (j - tm_st C m i))) ∧ (∀ i', (∀ j, j < tm_st C m n → kd j ≠ i') → ∀ c, st.2.2.2.2 c i' = R c i') ∧ st.2.2.2.2 0 = R 0) 0 (tm_ns C m) (by omega) ?_ ?_ (by omega) ⟨rfl, rfl, rfl, fun c _ => rfl, fun i hi => by omega, fun i' _ c => rfl, rfl⟩
    · rintro n ⟨u1, u2, u3, Z, V⟩ _ hn ⟨e1, e2, e3, hz, hr, hf, hr0⟩
      simp only at e1 e2 e3 hz hr hf hr0
      subst e1 e2 e3
      obtain ⟨l1, l2⟩ := tm_st_lt (C := C) hm1 hn
      have z93 : Z 9 3 = nI (tm_ns C m) := by
        rw [hz 9 (by omega)]
        show d' 0 3 = _
        rw [a3 0 (by decide) (by decide)]
        exact q3
      have z12 : Z 12 n = nI (hs n) := by
        rw [hz 12 (by omega)]
        exact a2 n hn
      have z13 : Z 13 n = nI (tm_st C m (n + 1)) := by
        rw [hz 13 (by omega), tm_inN (by omega)]
        exact (q4 n hn).1
      have zP : ∀ c, c < 4 → Z c = P c := fun c hc => by
        rw [hz c (by omega), tm_inN (by omega)]
        exact q2 c (by omega)
      obtain ⟨b', s1, s2, s3, s4, s5⟩ := tmX0_set (N := N) (tm_sh Z 4) (nI x) (nI (y + tm_sum hs n)) (nI w) (nI (hs n))
      have hkZ : tm_kids (tm_ins Z 4 1 b') m kd sz := tm_kids_eq hk (by rw [tm_inN (by omega)]; exact zP 0 (by omega)) (by rw [tm_inN (by omega)]; exact zP 1 (by omega)) (by rw [tm_inN (by omega)]; exact zP 2 (by omega))
      obtain ⟨P', R', f1, f2, f3, f4, f5⟩ := tmX2_fill (N := N) (P := tm_ins Z 4 1 b') (R := V) (bs := true) (b := 1) hN rfl ho hkZ l1 l2 ⟨s2, s3, s4, s5⟩ hw.2 (hhle n hn)
      have z30 : Z 3 0 = nI x := by rw [zP 3 (by omega)]; exact h0
      have z32 : Z 3 2 = nI w := by rw [zP 3 (by omega)]; exact h2
      have i13 : tm_ins Z 4 1 b' 13 = Z 13 := tm_inN (by omega)
      have p43 : P' 4 3 = nI (hs n) := by rw [f2 4 (by omega)]; exact s5
      have p13 : P' 13 n = nI (tm_st C m (n + 1)) := by rw [f2 13 (by omega), i13]; exact z13
      simp only [bX2_strip_31]
      rw [z93, if_neg (by rw [nI_leI (by omega) (by omega)]; omega), tm_gT (tm_inbN (by omega) (by decide)), nI_clamp (by omega), z12, z30, z32, s1]
      simp only [Option.bind_some, tm_nm]
      rw [i13, z13, f1]
      simp only [Option.bind_some, p43, p13, nI_add, nI_1]
      refine ⟨_, rfl, rfl, ?_, rfl, ?_, ?_, ?_, f5.trans hr0⟩
      · simp only [tm_sum, Nat.add_assoc]
      · intro c hc
        simp only
        rw [f2 c (by omega), tm_inN (by omega)]
        exact hz c hc
      · intro i hi j hj1 hj2
        simp only
        by_cases ei : i = n
        · subst ei
          exact f3 j hj1 hj2
        · have hlt : tm_st C m (i + 1) ≤ tm_st C m n := by
            have key : ∀ q, i + 1 + q ≤ n → tm_st C m (i + 1) ≤ tm_st C m (i + 1 + q) := by
              intro q
              induction q with
              | zero => intro _; exact Nat.le_refl _
              | succ q ih =>
                intro hq
                have a := ih (by omega)
                have b := (tm_st_lt (C := C) hm1 (show i + 1 + q < tm_ns C m by omega)).1
                rw [← Nat.add_assoc]
                omega
            have := key (n - (i + 1)) (by omega)
            rwa [show i + 1 + (n - (i + 1)) = n by omega] at this
          have hne : ∀ j', tm_st C m n ≤ j' → j' < tm_st C m (n + 1) → kd j' ≠ kd j := fun j' g1 g2 hh => by
            have := ho.2.2.2.1 j' j (by omega) (by omega) hh
            omega
          have := hr i (by omega) j hj1 hj2
          simp only [tm_at4] at this ⊢
          rw [f4 _ hne, f4 _ hne, f4 _ hne, f4 _ hne]
          exact this
      · intro i' hi' c
        simp only
        rw [f4 i' (fun j g1 g2 => hi' j (by omega))]
        exact hf i' (fun j g => hi' j (by omega)) c
    · rintro ⟨u1, u2, u3, Z, V⟩ ⟨e1, e2, e3, hz, hr, hf, hr0⟩
      simp only at e1 e2 e3 hz hr hf hr0
      subst e1 e2 e3
      have z93 : Z 9 3 = nI (tm_ns C m) := by
        rw [hz 9 (by omega)]
        show d' 0 3 = _
        rw [a3 0 (by decide) (by decide)]
        exact q3
      simp only [bX2_strip_31]
      rw [z93, if_pos (by rw [nI_leI (by omega) (by omega)]; omega)]
      refine ⟨_, rfl, hr, fun i' hi' => hf i' (fun j hj => hi' j ?_), hr0⟩
      rw [tm_stN] at hj
      exact hj
  obtain ⟨o, g1, g2, g3, g4⟩ := hloop
  refine ⟨o.2.2.2.1, o.2.2.2.2, ?_, ?_, g3, g4⟩
  · simp only [fX2_strip, q1, Option.bind_some, q33, a1, tm_nm]
    have e31 : tm_ins Q 9 4 d' 3 1 = nI y := by rw [tm_inN (by omega), q2 3 (by omega)]; exact h1
    rw [e31]
    rw [tm_st0 hm1] at g1
    rw [show (0 : Int32) = nI 0 from rfl]
    rw [show tm_sum hs 0 = 0 from rfl, Nat.add_zero] at g1
    rw [g1]
    rfl
  · intro j hj
    obtain ⟨s1, s2, s3⟩ := tm_si_in (C := C) hj
    have := g2 _ s1 j s2 s3
    unfold tm_strip
    rw [← hC, hhs]
    exact this
