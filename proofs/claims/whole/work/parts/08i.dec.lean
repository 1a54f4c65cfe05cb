/-! the class's and the reference's averages and worst ratios -/
theorem tm_okS {m a n : Nat} {kd sz : Nat → Nat} (ho : tm_ok m kd sz) (han : a + n ≤ m) : (∀ j, j < n → 1 ≤ sz (a + j) ∧ sz (a + j) ≤ 2400) ∧ tm_sum (fun t => sz (a + t)) n ≤ 2400 := by
  obtain ⟨ho1, ho2, ho3, ho4, ho5⟩ := ho
  refine ⟨fun j hj => ⟨(ho3 (a + j) (by omega)).2, ?_⟩, Nat.le_trans (tm_sum_part han) ho5⟩
  exact Nat.le_trans (tm_sum_ge m (by omega)) ho5
theorem tmX2_sumOf {N : Nat} (hN : 300 ≤ N) {P : tm_M} {m a e : Nat} {kd sz : Nat → Nat} (ho : tm_ok m kd sz) (hk : tm_kids P m kd sz) (hae : a ≤ e) (hem : e ≤ m) : fX2_sumOfSizes N P (nI a) (nI e) = some (nI (tm_sum (fun t => sz (a + t)) (e - a))) := by
  obtain ⟨ho1, ho2, ho3, ho4, ho5⟩ := ho
  have h : tm_whl (bX2_sumOfSizes_5 N P (nI e)) N (nI (tm_sum (fun t => sz (a + t)) (a - a)), nI a) = some (nI (tm_sum (fun t => sz (a + t)) (e - a)), nI e) := by
    refine tm_forE (fun i => (nI (tm_sum (fun t => sz (a + t)) (i - a)), nI i)) a e hae ?_ ?_ (by omega)
    · intro i h1 hi
      simp only [bX2_sumOfSizes_5]
      rw [if_neg (by rw [nI_leI (by omega) (by omega)]; omega), tm_gT (tm_inbN (by omega) (by decide)), nI_clamp (by omega), (hk.2 i (by omega)).2]
      simp only [tm_nm, nI_1, nI_add]
      rw [show i + 1 - a = (i - a) + 1 by omega]
      simp only [tm_sum]
      rw [show a + (i - a) = i by omega]
    · simp only [bX2_sumOfSizes_5]
      rw [if_pos (by rw [nI_leI (by omega) (by omega)]; omega)]
  simp only [fX2_sumOfSizes]
  rw [show ((0 : Int32), nI a) = (nI (tm_sum (fun t => sz (a + t)) (a - a)), nI a) by rw [Nat.sub_self]; rfl, h]
  rfl
theorem tmX2_pps {N : Nat} (hN : 300 ≤ N) {P : tm_M} {m a w h : Nat} {kd sz : Nat → Nat} (ho : tm_ok m kd sz) (hk : tm_kids P m kd sz) (ham : a < m) (h2 : P 3 2 = nI w) (h3 : P 3 3 = nI h) (hw : 1 ≤ w ∧ w ≤ 200) (hh : 1 ≤ h ∧ h ≤ 200) : fX2_pixelsPerSize N P (nI a) = some (tm_unit w h (tm_sum (fun t => sz (a + t)) (m - a))) := by
  have hm24 : m ≤ 24 := ho.2.1
  have hs := tm_okS (a := a) (n := m - a) ho (by omega)
  have hp : 0 < tm_sum (fun t => sz (a + t)) (m - a) := tm_sum_pos (by omega) (fun j hj => (hs.1 j hj).1)
  have hT := hs.2
  simp only [fX2_pixelsPerSize]
  rw [hk.1, tmX2_sumOf hN ho hk (by omega) (Nat.le_refl m), h2, h3, pk_mul]
  simp only [Option.bind_some]
  rw [if_neg (by rw [← nI_0, nI_leI (by omega) (by omega)]; omega)]
  exact tm_gT (tm_pf_nn (tm_unit_pf hw hh ⟨hp, hs.2⟩) (by decide))
theorem tmX2_thkOf {N S w : Nat} {u : UInt32} (hS : 1 ≤ S ∧ S ≤ 2400) (hu : tm_pf 114 145 u) (hw : 1 ≤ w ∧ w ≤ 200) : fX2_thicknessOf N (nI S) u (nI w) = some (tm_thk S u w) := by
  have hmul := tm_mul_pf hS hu
  have ht := tm_thk_pf hS hu hw
  simp only [fX2_thicknessOf]
  rw [if_neg (by rw [← nI_0, nI_leI (by omega) (by omega)]; omega), tm_gT (tm_pf_nn hmul (by decide))]
  exact tm_gT (tm_pf_nn ht (by decide))
theorem tmX2_avg {N : Nat} (hN : 300 ≤ N) {P : tm_M} {m a e w : Nat} {kd sz : Nat → Nat} {u : UInt32} (ho : tm_ok m kd sz) (hk : tm_kids P m kd sz) (hae : a < e) (hem : e ≤ m) (h2 : P 3 2 = nI w) (hw : 1 ≤ w ∧ w ≤ 200) (hu : tm_pf 114 145 u) : fX2_averageRatio N P (nI a) (nI e) u = some (tm_avg (fun t => sz (a + t)) (e - a) u w) := by
  have hm24 : m ≤ 24 := ho.2.1
  have hs := tm_okS (a := a) (n := e - a) ho (by omega)
  have hp : 0 < tm_sum (fun t => sz (a + t)) (e - a) := tm_sum_pos (by omega) (fun j hj => (hs.1 j hj).1)
  have h24 : e - a ≤ 24 := by omega
  have ht := tm_thk_pf ⟨hp, hs.2⟩ hu hw
  have hmul := tm_mul_pf ⟨hp, hs.2⟩ hu
  have hav := tm_avg_pf (sz := fun t => sz (a + t)) (n := e - a) hu hw ⟨by omega, h24⟩ hs.1 hs.2
  generalize hte : tm_thk (tm_sum (fun t => sz (a + t)) (e - a)) u w = t at *
  have hloop : tm_whl (bX2_averageRatio_25 N P (nI e) u t) N (tm_rsum (fun t => sz (a + t)) u t (a - a), nI a) = some (tm_rsum (fun t => sz (a + t)) u t (e - a), nI e) := by
    refine tm_forE (fun i => (tm_rsum (fun t => sz (a + t)) u t (i - a), nI i)) a e (by omega) ?_ ?_ (by omega)
    · intro i h1 hi
      have hsi := hs.1 (i - a) (by omega)
      rw [show a + (i - a) = i by omega] at hsi
      have hadd : (tm_rsum (fun t => sz (a + t)) u t (i - a + 1)).toNat < 255 * 2 ^ 23 := tm_rsum_lt hu ht (i - a + 1) (by omega) (fun j hj => hs.1 j (by omega))
      simp only [bX2_averageRatio_25]
      rw [if_neg (by rw [nI_leI (by omega) (by omega)]; omega), tm_gT (tm_inbN (by omega) (by decide)), nI_clamp (by omega), (hk.2 i (by omega)).2, tmX2_ratio hsi hu ht]
      simp only [Option.bind_some, tm_nm, nI_1]
      have e1 : FP.fadd (tm_rsum (fun t => sz (a + t)) u t (i - a)) (tm_rat (sz i) u t) = tm_rsum (fun t => sz (a + t)) u t (i - a + 1) := by
        simp only [tm_rsum]
        rw [show a + (i - a) = i by omega]
      rw [e1, tm_gT (tmf_nn hadd), show i + 1 - a = i - a + 1 by omega]
    · simp only [bX2_averageRatio_25]
      rw [if_pos (by rw [nI_leI (by omega) (by omega)]; omega)]
  simp only [fX2_averageRatio]
  rw [tmX2_sumOf hN ho hk (by omega) hem]
  simp only [Option.bind_some]
  rw [h2, tmX2_thkOf ⟨hp, hs.2⟩ hu hw, hte]
  simp only [Option.bind_some]
  rw [show (FP.fconst0, nI a) = (tm_rsum (fun t => sz (a + t)) u t (a - a), nI a) by rw [Nat.sub_self]; rfl, hloop]
  simp only [Option.bind_some]
  rw [if_neg (by rw [nI_leI (by omega) (by omega)]; omega), pk_sub (by omega)]
  have hav' : tm_avg (fun t => sz (a + t)) (e - a) u w = FP.fdiv (tm_rsum (fun t => sz (a + t)) u t (e - a)) (FP.i2f (nI (e - a))) := by
    simp only [tm_avg, hte]
  rw [← hav', tm_gT (tm_pf_nn hav (by decide))]
theorem tmX2_wst {N : Nat} (hN : 300 ≤ N) {P : tm_M} {m a e w : Nat} {kd sz : Nat → Nat} {u : UInt32} (ho : tm_ok m kd sz) (hk : tm_kids P m kd sz) (hae : a < e) (hem : e ≤ m) (hw : 1 ≤ w ∧ w ≤ 200) (hu : tm_pf 114 145 u) : fX2_worstRatio N P (nI a) (nI e) u (nI w) = some (tm_wst (fun t => sz (a + t)) (e - a) u w) := by
  have hm24 : m ≤ 24 := ho.2.1
  have hs := tm_okS (a := a) (n := e - a) ho (by omega)
  have hp : 0 < tm_sum (fun t => sz (a + t)) (e - a) := tm_sum_pos (by omega) (fun j hj => (hs.1 j hj).1)
  have h24 : e - a ≤ 24 := by omega
  have ht := tm_thk_pf ⟨hp, hs.2⟩ hu hw
  have hmul := tm_mul_pf ⟨hp, hs.2⟩ hu
  simp only [tm_wst]
  generalize hte : tm_thk (tm_sum (fun t => sz (a + t)) (e - a)) u w = t at *
  have hloop : tm_whl (bX2_worstRatio_20 N P (nI e) u t) N (tm_rmax (fun t => sz (a + t)) u t (a - a), nI a) = some (tm_rmax (fun t => sz (a + t)) u t (e - a), nI e) := by
    refine tm_forE (fun i => (tm_rmax (fun t => sz (a + t)) u t (i - a), nI i)) a e (by omega) ?_ ?_ (by omega)
    · intro i h1 hi
      have hsi := hs.1 (i - a) (by omega)
      rw [show a + (i - a) = i by omega] at hsi
      have hmx := tm_rmax_lt hu ht (i - a) (fun j hj => hs.1 j (by omega))
      have hrt := tm_pf_lt (tm_rat_pf hsi hu ht) (by decide)
      have hc := (tm_cmp (op := .l) hrt hmx).1
      simp only [bX2_worstRatio_20]
      rw [if_neg (by rw [nI_leI (by omega) (by omega)]; omega), tm_gT (tm_inbN (by omega) (by decide)), nI_clamp (by omega), (hk.2 i (by omega)).2, tmX2_ratio hsi hu ht]
      simp only [Option.bind_some, tm_nm, nI_1]
      rw [show i + 1 - a = i - a + 1 by omega]
      simp only [tm_rmax]
      rw [show a + (i - a) = i by omega]
      by_cases hlt : (tm_rat (sz i) u t).toNat < (tm_rmax (fun t => sz (a + t)) u t (i - a)).toNat
      · rw [if_pos (hc.mpr hlt), if_pos hlt]
      · rw [if_neg (fun h => hlt (hc.mp h)), if_neg hlt]
    · simp only [bX2_worstRatio_20]
      rw [if_pos (by rw [nI_leI (by omega) (by omega)]; omega)]
  simp only [fX2_worstRatio]
  rw [tmX2_sumOf hN ho hk (by omega) hem]
  simp only [Option.bind_some]
  rw [tmX2_thkOf ⟨hp, hs.2⟩ hu hw, hte]
  simp only [Option.bind_some]
  rw [show (FP.fconst0, nI a) = (tm_rmax (fun t => sz (a + t)) u t (a - a), nI a) by rw [Nat.sub_self]; rfl, hloop]
  rfl
theorem tmX8_aspect {N : Nat} (hN : 300 ≤ N) {d : tm_M} {g0 : Int64} {m a n i w : Nat} {kd sz : Nat → Nat} {u : UInt32} (ho : tm_ok m kd sz) (hk : tm_kidsM d m kd sz) (hn : 1 ≤ n) (han : a + n ≤ m) (hi : i < n) (hw : 1 ≤ w ∧ w ≤ 200) (hu : tm_pf 114 145 u) : fX8_aspect N d g0 (nI (kd (a + i))) (nI a) (nI n) u (nI w) = some (tm_rat (sz (a + i)) u (tm_thk (tm_sum (fun t => sz (a + t)) n) u w)) := by
  have hm24 : m ≤ 24 := ho.2.1
  have hs := tm_okS (a := a) (n := n) ho han
  have hp : 0 < tm_sum (fun t => sz (a + t)) n := tm_sum_pos hn (fun j hj => (hs.1 j hj).1)
  have ht := tm_thk_pf ⟨hp, hs.2⟩ hu hw
  have hmul := tm_mul_pf ⟨hp, hs.2⟩ hu
  have hsi := hs.1 i hi
  have h1 := tm_mul_pf hsi hu
  have hkd : kd (a + i) < 24 := (ho.2.2.1 (a + i) (by omega)).1
  simp only [fX8_aspect]
  rw [tmX8_sumOf hN ho hk han]
  simp only [Option.bind_some]
  rw [tm_gT (tm_pf_nn hmul (by decide))]
  generalize hte : tm_thk (tm_sum (fun t => sz (a + t)) n) u w = t at *
  have ht' : FP.fdiv (FP.fmul (FP.i2f (nI (tm_sum (fun t => sz (a + t)) n))) u) (FP.i2f (nI w)) = t := hte
  have h2 := tm_len_pf hsi hu ht
  have h3 := tm_lt_pf hsi hu ht
  have h4 := (tm_cmp (op := .l) (tm_pf_lt h3.1 (by decide)) (tm_pf_lt h3.2 (by decide))).2.1
  rw [ht', tm_gT (tm_pf_nn ht (by decide))]
  simp only [tm_nm]
  rw [tm_gT (tm_inbN hkd (by decide)), nI_clamp (by omega), (hk.2 (a + i) (by omega)).2, tm_gT (tm_pf_nn h1 (by decide)), show FP.fdiv (FP.fmul (FP.i2f (nI (sz (a + i)))) u) t = tm_len (sz (a + i)) u t from rfl, tm_gT (tm_pf_nn h2 (by decide)), tm_gT (tm_pf_nn h3.1 (by decide)), tm_gT (tm_pf_nn h3.2 (by decide))]
  unfold tm_rat
  by_cases hc : (FP.fdiv (tm_len (sz (a + i)) u t) t).toNat < (FP.fdiv t (tm_len (sz (a + i)) u t)).toNat
  · rw [if_pos hc, if_pos (h4.mpr (by omega))]
  · rw [if_neg hc]
    by_cases he : (FP.fdiv (tm_len (sz (a + i)) u t) t).toNat ≤ (FP.fdiv t (tm_len (sz (a + i)) u t)).toNat
    · rw [if_pos (h4.mpr he)]
      have : FP.fdiv t (tm_len (sz (a + i)) u t) = FP.fdiv (tm_len (sz (a + i)) u t) t := UInt32.toNat_inj.mp (by omega)
      exact congrArg some this
    · rw [if_neg (fun h => he (h4.mp h))]
theorem tmX8_avg {N : Nat} (hN : 300 ≤ N) {d : tm_M} {g0 : Int64} {m a n w : Nat} {kd sz : Nat → Nat} {u : UInt32} (ho : tm_ok m kd sz) (hk : tm_kidsM d m kd sz) (hn : 1 ≤ n) (han : a + n ≤ m) (hw : 1 ≤ w ∧ w ≤ 200) (hu : tm_pf 114 145 u) : fX8_average N d g0 (nI a) (nI n) u (nI w) = some (tm_avg (fun t => sz (a + t)) n u w) := by
  have hm24 : m ≤ 24 := ho.2.1
  have hs := tm_okS (a := a) (n := n) ho han
  have hp : 0 < tm_sum (fun t => sz (a + t)) n := tm_sum_pos hn (fun j hj => (hs.1 j hj).1)
  have h24 : n ≤ 24 := by omega
  have ht := tm_thk_pf ⟨hp, hs.2⟩ hu hw
  have hav := tm_avg_pf (sz := fun t => sz (a + t)) (n := n) hu hw ⟨hn, h24⟩ hs.1 hs.2
  have hloop : tm_whl (bX8_average_6 N d g0 (nI a) (nI n) u (nI w)) N (tm_rsum (fun t => sz (a + t)) u (tm_thk (tm_sum (fun t => sz (a + t)) n) u w) 0, nI 0) = some (tm_rsum (fun t => sz (a + t)) u (tm_thk (tm_sum (fun t => sz (a + t)) n) u w) n, nI n) := by
    refine tm_forE (fun i => (tm_rsum (fun t => sz (a + t)) u (tm_thk (tm_sum (fun t => sz (a + t)) n) u w) i, nI i)) 0 n (by omega) ?_ ?_ (by omega)
    · intro i _ hi
      have hadd := tm_rsum_lt hu ht (i + 1) (by omega) (fun j hj => hs.1 j (by omega))
      simp only [bX8_average_6]
      rw [if_neg (by rw [nI_leI (by omega) (by omega)]; omega), nI_add, tm_gT (tm_inbN (by omega) (by decide)), nI_clamp (by omega), (hk.2 (a + i) (by omega)).1, tmX8_aspect hN ho hk hn han hi hw hu]
      simp only [Option.bind_some, tm_nm, nI_1]
      exact tm_gT (tmf_nn hadd)
    · simp only [bX8_average_6]
      rw [if_pos (by rw [nI_leI (by omega) (by omega)]; omega)]
  simp only [fX8_average]
  rw [show (FP.fconst0, (0 : Int32)) = (tm_rsum (fun t => sz (a + t)) u (tm_thk (tm_sum (fun t => sz (a + t)) n) u w) 0, nI 0) from rfl, hloop]
  simp only [Option.bind_some]
  exact tm_gT (tm_pf_nn hav (by decide))
theorem tmX8_wst {N : Nat} (hN : 300 ≤ N) {d : tm_M} {g0 : Int64} {m a n w : Nat} {kd sz : Nat → Nat} {u : UInt32} (ho : tm_ok m kd sz) (hk : tm_kidsM d m kd sz) (hn : 1 ≤ n) (han : a + n ≤ m) (hw : 1 ≤ w ∧ w ≤ 200) (hu : tm_pf 114 145 u) : fX8_worst N d g0 (nI a) (nI n) u (nI w) = some (tm_wst (fun t => sz (a + t)) n u w) := by
  have hm24 : m ≤ 24 := ho.2.1
  have hs := tm_okS (a := a) (n := n) ho han
  have hp : 0 < tm_sum (fun t => sz (a + t)) n := tm_sum_pos hn (fun j hj => (hs.1 j hj).1)
  have h24 : n ≤ 24 := by omega
  have ht := tm_thk_pf ⟨hp, hs.2⟩ hu hw
  have hloop : tm_whl (bX8_worst_6 N d g0 (nI a) (nI n) u (nI w)) N (tm_rmax (fun t => sz (a + t)) u (tm_thk (tm_sum (fun t => sz (a + t)) n) u w) 0, nI 0) = some (tm_rmax (fun t => sz (a + t)) u (tm_thk (tm_sum (fun t => sz (a + t)) n) u w) n, nI n) := by
    refine tm_forE (fun i => (tm_rmax (fun t => sz (a + t)) u (tm_thk (tm_sum (fun t => sz (a + t)) n) u w) i, nI i)) 0 n (by omega) ?_ ?_ (by omega)
    · intro i _ hi
      have hmx := tm_rmax_lt hu ht i (fun j hj => hs.1 j (by omega))
      have hrt := tm_pf_lt (tm_rat_pf (hs.1 i hi) hu ht) (by decide)
      have hc := (tm_cmp (op := .l) hrt hmx).2.1
      simp only [bX8_worst_6]
      rw [if_neg (by rw [nI_leI (by omega) (by omega)]; omega), nI_add, tm_gT (tm_inbN (by omega) (by decide)), nI_clamp (by omega), (hk.2 (a + i) (by omega)).1, tmX8_aspect hN ho hk hn han hi hw hu]
      simp only [Option.bind_some, tm_nm, nI_1, tm_rmax]
      by_cases hlt : (tm_rat (sz (a + i)) u (tm_thk (tm_sum (fun t => sz (a + t)) n) u w)).toNat < (tm_rmax (fun t => sz (a + t)) u (tm_thk (tm_sum (fun t => sz (a + t)) n) u w) i).toNat
      · rw [if_pos (hc.mpr (by omega)), if_pos hlt]
      · rw [if_neg hlt]
        by_cases hle : (tm_rat (sz (a + i)) u (tm_thk (tm_sum (fun t => sz (a + t)) n) u w)).toNat ≤ (tm_rmax (fun t => sz (a + t)) u (tm_thk (tm_sum (fun t => sz (a + t)) n) u w) i).toNat
        · rw [if_pos (hc.mpr hle)]
          have : tm_rmax (fun t => sz (a + t)) u (tm_thk (tm_sum (fun t => sz (a + t)) n) u w) i = tm_rat (sz (a + i)) u (tm_thk (tm_sum (fun t => sz (a + t)) n) u w) := UInt32.toNat_inj.mp (by omega)
          rw [this]
        · rw [if_neg (fun h => hle (hc.mp h))]
    · simp only [bX8_worst_6]
      rw [if_pos (by rw [nI_leI (by omega) (by omega)]; omega)]
  simp only [fX8_worst]
  rw [show (FP.fconst0, (0 : Int32)) = (tm_rmax (fun t => sz (a + t)) u (tm_thk (tm_sum (fun t => sz (a + t)) n) u w) 0, nI 0) from rfl, hloop]
  rfl
