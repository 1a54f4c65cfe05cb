/-! the reference's parts and laysRow -/
def bt (x : Int32) (i : Nat) : Bool := x.toBitVec.getLsbD i
theorem b_ext {x y : Int32} (h : ∀ i, i < 32 → bt x i = bt y i) : x = y := Int32.toBitVec_inj.mp (BitVec.eq_of_getLsbD_eq (fun i hi => h i hi))
theorem b_or (x y : Int32) (i : Nat) : bt (x ||| y) i = (bt x i || bt y i) := by unfold bt; rw [Int32.toBitVec_or, BitVec.getLsbD_or]
theorem b_and (x y : Int32) (i : Nat) : bt (x &&& y) i = (bt x i && bt y i) := by unfold bt; rw [Int32.toBitVec_and, BitVec.getLsbD_and]
theorem b_0 (i : Nat) : bt 0 i = false := BitVec.getLsbD_zero
theorem s_l : ∀ n, n < 32 → ((nI n &&& 31).toBitVec.smod 32).toNat = n := by decide +kernel
theorem b_shl (n : Nat) (hn : n < 32) (x : Int32) {i : Nat} (hi : i < 32) : bt (x <<< (nI n &&& 31)) i = (decide (n ≤ i) && bt x (i - n)) := by
  unfold bt
  rw [Int32.toBitVec_shiftLeft]
  show (x.toBitVec <<< ((nI n &&& 31).toBitVec.smod 32).toNat).getLsbD i = _
  rw [s_l n hn, BitVec.getLsbD_shiftLeft]
  rcases Nat.lt_or_ge i n with h | h
  · simp [h, Nat.not_le.mpr h]
  · simp [hi, h, Nat.not_lt.mpr h]
theorem b_sshr (n : Nat) (hn : n < 32) (x : Int32) {i : Nat} (hi : i < 32) : bt (x >>> (nI n &&& 31)) i = if n + i < 32 then bt x (n + i) else bt x 31 := by
  unfold bt
  rw [Int32.toBitVec_shiftRight]
  show (x.toBitVec.sshiftRight ((nI n &&& 31).toBitVec.smod 32).toNat).getLsbD i = _
  rw [s_l n hn, BitVec.getLsbD_sshiftRight, BitVec.msb_eq_getLsbD_last]
  simp [hi]
theorem b_1 : ∀ i, i < 32 → bt 1 i = decide (i = 0) := by decide +kernel
theorem tm_mbit {v : Int32} {k : Nat} (hk : k < 32) : ((v >>> (nI k &&& 31)) &&& 1) = 0 ↔ bt v k = false := by
  have h0 : bt (v >>> (nI k &&& 31)) 0 = bt v k := by
    rw [b_sshr k hk v (by decide), Nat.add_zero, if_pos hk]
  constructor
  · intro h
    have h1 : bt ((v >>> (nI k &&& 31)) &&& 1) 0 = false := by rw [h]; exact b_0 0
    rw [b_and, h0, b_1 0 (by decide)] at h1
    simpa using h1
  · intro h
    apply b_ext
    intro i hi
    rw [b_and, b_1 i hi, b_0]
    by_cases e : i = 0
    · subst e
      rw [h0, h]; rfl
    · rw [decide_eq_false e, Bool.and_false]
theorem tm_mor {v : Int32} {b i : Nat} (hb : b < 32) (hi : i < 32) : bt (v ||| (1 <<< (nI b &&& 31))) i = (decide (i = b) || bt v i) := by
  rw [b_or, b_shl b hb 1 hi, b_1 (i - b) (by omega)]
  by_cases e : i = b
  · subst e; simp
  · by_cases h : b ≤ i
    · rw [decide_eq_true h, decide_eq_false (show ¬ i - b = 0 by omega), decide_eq_false e, Bool.and_false, Bool.or_false, Bool.false_or]
    · rw [decide_eq_false h, decide_eq_false e, Bool.false_and, Bool.or_false, Bool.false_or]
def tm_bi : Option Nat → Int32
  | none => -1
  | some b => nI b
theorem tm_nI_m1 {b : Nat} (h : b < 2 ^ 31) : ¬ nI b = -1 := by
  intro e
  have h1 := nI_toInt h
  rw [e] at h1
  have h2 : (-1 : Int32).toInt = -1 := by decide
  omega
theorem tmX8_best {N : Nat} (hN : 300 ≤ N) {d : tm_M} {m L T : Nat} {s : Nat → Nat} {g : Nat → Bool} {v : Int32} (hm2 : m ≤ 24) (hT : 0 < T) (hT2 : T < 2 ^ 30) (hs : ∀ j, j < m → d 4 j = nI (s j)) (hsL : ∀ j, j < m → s j * L < 2 ^ 30) (hv : ∀ j, j < m → bt v j = g j) :
    tm_whl (bX8_parts_89 N d (nI L) (nI m) (nI T) v) N ((-1 : Int32), (0 : Int32)) = some (tm_bi (tm_best (tm_rm s T L) g m), nI m) := by
  have h := tm_forE (body := bX8_parts_89 N d (nI L) (nI m) (nI T) v) (o := (tm_bi (tm_best (tm_rm s T L) g m), nI m)) (fun k => (tm_bi (tm_best (tm_rm s T L) g k), nI k)) 0 m (by omega) ?_ ?_ (n := N) (by omega)
  · exact h
  · intro k _ hk
    simp only [bX8_parts_89]
    rw [if_neg (by rw [nI_leI (by omega) (by omega)]; omega)]
    by_cases hg : g k = true
    · rw [if_neg (by rw [tm_mbit (by omega), hv k hk, hg]; decide)]
      simp only [tm_nm, nI_1]
      rcases tm_best_spec (r := tm_rm s T L) (g := g) k with ⟨h1, h2⟩ | ⟨b, h1, h2, h3⟩
      · simp only [tm_best, h1, hg, if_true]
      · simp only [tm_best, h1, hg, if_true]
    · have hg' : g k = false := by simpa using hg
      rw [if_pos (by rw [tm_mbit (by omega), hv k hk, hg'])]
      rcases tm_best_spec (r := tm_rm s T L) (g := g) k with ⟨h1, h2⟩ | ⟨b, h1, h2, h3⟩
      · rw [if_pos (by rw [h1]; rfl)]
        simp only [tm_nm, nI_1, tm_best, h1, hg', Bool.false_eq_true, if_false]
        rfl
      · have hb : tm_bi (tm_best (tm_rm s T L) g k) = nI b := by rw [h1]; rfl
        have hr1 : tm_rm s T L k < T := Nat.mod_lt _ hT
        have hr2 : tm_rm s T L b < T := Nat.mod_lt _ hT
        rw [hb, if_neg (tm_nI_m1 (by omega)), tm_gT (tm_inbN (show k < 24 by omega) (by decide)), tm_gT (by simp only [tm_nz, Bool.not_eq_true', decide_eq_false_iff_not]; exact nI_ne0 hT (by omega)), tm_gT (tm_inbN (show b < 24 by omega) (by decide)), nI_clamp (show k < 2 ^ 31 by omega), nI_clamp (show b < 2 ^ 31 by omega), hs k hk, hs b (by omega), pk_mul, pk_mul, pk_rem (Nat.lt_trans (hsL k hk) (by decide)) hT (by omega), pk_rem (Nat.lt_trans (hsL b (by omega)) (by decide)) hT (by omega)]
        have hle : nI (s k * L % T) ≤ nI (s b * L % T) ↔ ¬ tm_rm s T L b < tm_rm s T L k := by
          rw [nI_leI (by simp only [tm_rm] at hr1; omega) (by simp only [tm_rm] at hr2; omega)]
          simp only [tm_rm]
          omega
        simp only [tm_nm, nI_1, tm_best, h1, hg', Bool.false_eq_true, if_false]
        by_cases hlt : tm_rm s T L b < tm_rm s T L k
        · rw [if_neg (by rw [hle]; exact fun h => h hlt), if_pos hlt]
          rfl
        · rw [if_pos (by rw [hle]; exact hlt), if_neg hlt]
          rfl
  · simp only [bX8_parts_89]
    rw [if_pos (by rw [nI_leI (by omega) (by omega)]; omega)]
theorem tmX8_parts {N : Nat} (hN : 300 ≤ N) {d : tm_M} {g0 : Int64} {m L : Nat} {s : Nat → Nat} (hm : 1 ≤ m) (hm2 : m ≤ 24) (hs : ∀ j, j < m → d 4 j = nI (s j)) (hT : 0 < tm_sum s m) (hL : L < 2 ^ 20) (hb : tm_sum s m * L < 2 ^ 30) (hT2 : tm_sum s m < 2 ^ 30) :
    ∃ d', fX8_parts N d g0 (nI L) (nI m) = some d' ∧ (∀ j, j < m → d' 5 j = nI (tm_app s m L j)) ∧ (∀ c, c ≠ 5 → d' c = d c) := by
  have hsT : ∀ j, j < m → s j ≤ tm_sum s m := fun j hj => tm_sum_ge m hj
  have hsL : ∀ j, j < m → s j * L < 2 ^ 30 := fun j hj => Nat.lt_of_le_of_lt (Nat.mul_le_mul_right L (hsT j hj)) hb
  have h1 : tm_whl (bX8_parts_5 N d (nI m)) N (nI (tm_sum s 0), nI 0) = some (nI (tm_sum s m), nI m) := by
    refine tm_forE (fun i => (nI (tm_sum s i), nI i)) 0 m (by omega) ?_ ?_ (by omega)
    · intro i _ h2
      simp only [bX8_parts_5]
      rw [if_neg (by rw [nI_leI (by omega) (by omega)]; omega), tm_gT (tm_inbN (by omega) (by omega)), nI_clamp (by omega), hs i h2]
      simp only [tm_nm, nI_1, nI_add, tm_sum]
    · simp only [bX8_parts_5]
      rw [if_pos (by rw [nI_leI (by omega) (by omega)]; omega)]
  have e0 : ((0 : Int32), (0 : Int32)) = (nI (tm_sum s 0), nI 0) := by simp only [tm_sum]; rfl
  generalize hTe : tm_sum s m = T at *
  have hfl : ∀ i, i ≤ m → tm_sum (tm_fl s T L) i ≤ L := fun i hi => by
    have a1 := tm_fl_le s m L (by omega)
    rw [hTe] at a1
    exact Nat.le_trans (tm_sum_mono hi) a1
  have h2 : ∃ o, tm_whl (bX8_parts_33 N (nI L) (nI m) (nI T)) N (nI L, nI 0, d) = some o ∧ (o.1 = nI (L - tm_sum (tm_fl s T L) m) ∧ (∀ j, j < m → o.2.2 5 j = nI (tm_fl s T L j)) ∧ (∀ c, c ≠ 5 → o.2.2 c = d c)) := by
    refine tm_fI (I := fun i st => st.1 = nI (L - tm_sum (tm_fl s T L) i) ∧ st.2.1 = nI i ∧ (∀ j, j < i → st.2.2 5 j = nI (tm_fl s T L j)) ∧ (∀ c, c ≠ 5 → st.2.2 c = d c)) 0 m (by omega) ?_ ?_ (by omega) ⟨by simp only [tm_sum, Nat.sub_zero], rfl, fun j h => by omega, fun c _ => rfl⟩
    · rintro i ⟨x, y, z⟩ _ hi ⟨hx, hy, hz, hk⟩
      simp only at hx hy hz hk
      subst hx hy
      have k4 := hk 4 (by decide)
      have hlt : s i * L < 2 ^ 30 := hsL i hi
      simp only [bX8_parts_33]
      rw [if_neg (by rw [nI_leI (by omega) (by omega)]; omega), tm_gT (tm_inbN (by omega) (by omega)), tm_gT (by simp only [tm_nz, Bool.not_eq_true', decide_eq_false_iff_not]; exact nI_ne0 hT (by omega))]
      simp only [tm_nm, nI_clamp (show i < 2 ^ 31 by omega), k4, hs i hi, tm_ucE, pk_us, pk_mul]
      rw [pk_div (by omega) hT (by omega), nI_1]
      have hfi := hfl (i + 1) (by omega)
      simp only [tm_sum] at hfi
      refine ⟨_, rfl, ?_, rfl, ?_, ?_⟩
      · simp only [tm_sum]
        rw [show nI (s i * L / T) = nI (tm_fl s T L i) from rfl, pk_sub (by omega), Nat.sub_sub]
      · intro j hj
        simp only [tm_ucE]
        by_cases e : j = i
        · subst e
          exact pk_us
        · rw [pk_un e]
          exact hz j (by omega)
      · intro c h2
        simp only
        rw [tm_ucN h2]
        exact hk c h2
    · rintro ⟨x, y, z⟩ ⟨hx, hy, hz, hk⟩
      simp only at hx hy hz hk
      subst hx hy
      simp only [bX8_parts_33]
      rw [if_pos (by rw [nI_leI (by omega) (by omega)]; omega)]
      exact ⟨_, rfl, rfl, hz, hk⟩
  obtain ⟨⟨x2, y2, z2⟩, h2, hx2, hz2, hk2⟩ := h2
  simp only at hx2 hz2 hk2
  have hleft : L - tm_sum (tm_fl s T L) m = tm_left s m L := by simp only [tm_left, hTe]
  have hlm : tm_left s m L < m := tm_left_lt s m L (by omega) (by omega)
  have h3 : ∃ o, tm_whl (bX8_parts_78 N (nI L) (nI m) (nI T)) N (x2, 0, z2) = some o ∧ ((∀ j, j < m → o.2.2 5 j = nI (tm_app s m L j)) ∧ (∀ c, c ≠ 5 → o.2.2 c = d c)) := by
    refine tm_fI (I := fun t st => st.1 = nI (tm_left s m L - t) ∧ (∀ j, j < m → bt st.2.1 j = tm_gv (tm_rm s T L) m t j) ∧ (∀ j, j < m → st.2.2 5 j = nI (tm_fl s T L j + (if tm_gv (tm_rm s T L) m t j = true then 1 else 0))) ∧ (∀ c, c ≠ 5 → st.2.2 c = d c)) 0 (tm_left s m L) (by omega) ?_ ?_ (by omega) ⟨by simp only; rw [hx2, hleft, Nat.sub_zero], fun j _ => b_0 j, fun j hj => ?_, hk2⟩
    · rintro t ⟨u, v, z⟩ _ ht ⟨hu, hv, hz, hk⟩
      simp only at hu hv hz hk
      have k4 := hk 4 (by decide)
      obtain ⟨b, hb1, hb2, hb3, hb4⟩ := tm_gv_step (r := tm_rm s T L) (m := m) (t := t) (by omega)
      have hbest := tmX8_best (d := z) (m := m) (L := L) (T := T) (s := s) (g := tm_gv (tm_rm s T L) m t) (v := v) hN hm2 hT hT2 (fun j hj => by rw [k4]; exact hs j hj) hsL hv
      rw [hb1] at hbest
      obtain ⟨lt, hlt⟩ : ∃ q, tm_left s m L - t = q + 1 := ⟨tm_left s m L - t - 1, by omega⟩
      rw [hlt] at hu
      subst hu
      have hlt2 : lt + 1 < 2 ^ 31 := by omega
      simp only [bX8_parts_78]
      rw [if_neg (nI_nle (by omega) hlt2), hbest]
      simp only [Option.bind_some, tm_bi, tm_nm, tm_gT (tm_inbN (show b < 24 by omega) (by decide)), nI_clamp (show b < 2 ^ 31 by omega), pk_m1]
      refine ⟨_, rfl, ?_, ?_, ?_, ?_⟩
      · simp only
        congr 1
        omega
      · intro j hj
        simp only
        rw [tm_mor (by omega) (by omega), hb4, hv j hj]
      · intro j hj
        simp only [tm_ucE, hb4]
        by_cases e : j = b
        · subst e
          have g1 : (decide (j = j) || tm_gv (tm_rm s T L) m t j) = true := by simp
          rw [pk_us, hz j hj, hb3, if_neg Bool.false_ne_true, nI_1, Bool.or_false, decide_eq_true rfl, if_pos rfl, Nat.add_zero]
        · have g1 : (decide (j = b) || tm_gv (tm_rm s T L) m t j) = tm_gv (tm_rm s T L) m t j := by rw [decide_eq_false e, Bool.false_or]
          rw [pk_un e, hz j hj, g1]
      · intro c h2
        simp only
        rw [tm_ucN h2]
        exact hk c h2
    · rintro ⟨u, v, z⟩ ⟨hu, hv, hz, hk⟩
      simp only at hu hv hz hk
      rw [Nat.sub_self] at hu
      subst hu
      simp only [bX8_parts_78]
      rw [if_pos (by rw [← nI_0, nI_leI (by decide) (by decide)]; exact Nat.le_refl _)]
      refine ⟨_, rfl, fun j hj => ?_, hk⟩
      simp only [tm_app, hTe]
      exact hz j hj
    · have h0 : tm_gv (tm_rm s T L) m 0 j = false := rfl
      show z2 5 j = _
      rw [h0, if_neg Bool.false_ne_true, Nat.add_zero]
      exact hz2 j hj
  obtain ⟨o3, h3, h4, h5⟩ := h3
  refine ⟨o3.2.2, ?_, h4, h5⟩
  simp only [fX8_parts]
  rw [e0, h1]
  simp only [Option.bind_some]
  rw [← nI_0, h2]
  simp only [Option.bind_some]
  rw [nI_0, h3]
  rfl
