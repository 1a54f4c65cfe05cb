theorem tm_le_int {a b : Int32} : a ≤ b ↔ a.toInt ≤ b.toInt := Int32.le_iff_toInt_le
theorem tm_lt_int {a b : Int32} : a < b ↔ a.toInt < b.toInt := Int32.lt_iff_toInt_lt
def tm_lrv (v : Nat → Int) : Nat → Nat
  | 0 => 0
  | i + 1 => if v (tm_lrv v i) < v i then i else tm_lrv v i
theorem tm_lrv_lt (v : Nat → Int) : ∀ k, 0 < k → tm_lrv v k < k := by
  intro k
  induction k with
  | zero => intro h; omega
  | succ k ih =>
    intro _
    simp only [tm_lrv]
    split
    · omega
    · by_cases e : k = 0
      · subst e; simp [tm_lrv]
      · have := ih (by omega); omega
theorem tm_lrv_best {r : Nat → Nat} {g : Nat → Bool} {v : Nat → Int} (hv : ∀ j, v j = if g j = true then -1 else (r j : Int)) : ∀ k, (tm_best r g k = none → tm_lrv v k = 0) ∧ (∀ b, tm_best r g k = some b → tm_lrv v k = b) := by
  intro k
  induction k with
  | zero => exact ⟨fun _ => rfl, fun b h => by simp [tm_best] at h⟩
  | succ k ih =>
    obtain ⟨ih1, ih2⟩ := ih
    rcases tm_best_spec (r := r) (g := g) k with ⟨h1, h2⟩ | ⟨b, h1, h2, h3⟩
    · have e := ih1 h1
      have h0 : k = 0 ∨ v 0 = -1 := by
        by_cases hk : k = 0
        · exact Or.inl hk
        · right; rw [hv 0, if_pos (h2 0 (by omega))]
      simp only [tm_best, h1, tm_lrv, e]
      by_cases hg : g k = true
      · have hvk : v k = -1 := by rw [hv k, if_pos hg]
        refine ⟨fun _ => ?_, fun b h => by simp [hg] at h⟩
        rcases h0 with h0 | h0
        · subst h0; simp
        · rw [h0, hvk]; simp
      · have hvk : v k = (r k : Int) := by rw [hv k, if_neg hg]
        refine ⟨fun h => by simp [hg] at h, fun b h => ?_⟩
        simp only [hg, if_false] at h
        have hb : k = b := by simpa using h
        subst hb
        rcases h0 with h0 | h0
        · subst h0; simp
        · rw [h0, hvk, if_pos (by omega)]
    · have e := ih2 b h1
      have hvb : v b = (r b : Int) := by rw [hv b, h3]; simp
      simp only [tm_best, h1, tm_lrv, e]
      by_cases hg : g k = true
      · have hvk : v k = -1 := by rw [hv k, if_pos hg]
        refine ⟨fun h => by simp [hg] at h, fun c h => ?_⟩
        have hc : b = c := by simpa [hg] using h
        subst hc
        rw [hvb, hvk, if_neg (by omega)]
      · have hvk : v k = (r k : Int) := by rw [hv k, if_neg hg]
        rw [hvb, hvk]
        by_cases hr : r b < r k
        · refine ⟨fun h => by simp [hg, hr] at h, fun c h => ?_⟩
          have hc : k = c := by simpa [hg, hr] using h
          subst hc
          rw [if_pos (by omega)]
        · refine ⟨fun h => by simp [hg, hr] at h, fun c h => ?_⟩
          have hc : b = c := by simpa [hg, hr] using h
          subst hc
          rw [if_neg (by omega)]
theorem tmX4_lr {N : Nat} (hN : 300 ≤ N) {d : tm_M} {m : Nat} {v : Nat → Int} (hm : 1 ≤ m) (hm2 : m ≤ 24) (hc : d 0 3 = nI m) (hv : ∀ j, j < m → (d 2 j).toInt = v j) : fX4_largestRemainder N d = some (nI (tm_lrv v m)) := by
  have h : tm_whl (bX4_largestRemainder_4 N d) N (nI (tm_lrv v 1), nI 1) = some (nI (tm_lrv v m), nI m) := by
    refine tm_forE (fun i => (nI (tm_lrv v i), nI i)) 1 m hm ?_ ?_ (by omega)
    · intro i h1 h2
      have h3 := tm_lrv_lt v i (by omega)
      simp only [bX4_largestRemainder_4, hc]
      rw [if_neg (by rw [nI_leI (by omega) (by omega)]; omega), tm_gT (tm_inbN (by omega) (by omega)), tm_gT (tm_inbN (by omega) (by omega)), nI_clamp (by omega), nI_clamp (by omega)]
      have hle : d 2 i ≤ d 2 (tm_lrv v i) ↔ v i ≤ v (tm_lrv v i) := by rw [tm_le_int, hv i h2, hv _ (by omega)]
      simp only [tm_nm, nI_1, tm_lrv]
      by_cases hh : v (tm_lrv v i) < v i
      · rw [if_neg (by rw [hle]; omega), if_pos hh]
      · rw [if_pos (by rw [hle]; omega), if_neg hh]
    · simp only [bX4_largestRemainder_4, hc]
      rw [if_pos (by rw [nI_leI (by omega) (by omega)]; omega)]
  simp only [fX4_largestRemainder]
  have e0 : ((0 : Int32), (1 : Int32)) = (nI (tm_lrv v 1), nI 1) := by simp [tm_lrv]; decide
  rw [e0, h]
  rfl
theorem tmX4_app {N : Nat} (hN : 300 ≤ N) {d : tm_M} {m L : Nat} {s : Nat → Nat} (hm : 1 ≤ m) (hm2 : m ≤ 24) (hc : d 0 3 = nI m) (hs : ∀ j, j < m → d 1 j = nI (s j)) (hT : 0 < tm_sum s m) (hL : L < 2 ^ 20) (hb : tm_sum s m * L < 2 ^ 30) (hT2 : tm_sum s m < 2 ^ 30) :
    ∃ d', fX4_apportion N d (nI L) = some d' ∧ (∀ j, j < m → d' 3 j = nI (tm_app s m L j)) ∧ (∀ c, c ≠ 2 → c ≠ 3 → d' c = d c) := by
  have hsT : ∀ j, j < m → s j ≤ tm_sum s m := fun j hj => tm_sum_ge m hj
  have hsL : ∀ j, j < m → s j * L < 2 ^ 30 := fun j hj => Nat.lt_of_le_of_lt (Nat.mul_le_mul_right L (hsT j hj)) hb
  have h1 : tm_whl (bX4_apportion_4 N d) N (nI (tm_sum s 0), nI 0) = some (nI (tm_sum s m), nI m) := by
    refine tm_forE (fun i => (nI (tm_sum s i), nI i)) 0 m (by omega) ?_ ?_ (by omega)
    · intro i _ h2
      simp only [bX4_apportion_4, hc]
      rw [if_neg (by rw [nI_leI (by omega) (by omega)]; omega), tm_gT (tm_inbN (by omega) (by omega)), nI_clamp (by omega), hs i h2]
      simp only [tm_nm, nI_1, nI_add, tm_sum]
    · simp only [bX4_apportion_4, hc]
      rw [if_pos (by rw [nI_leI (by omega) (by omega)]; omega)]
  have e0 : ((0 : Int32), (0 : Int32)) = (nI (tm_sum s 0), nI 0) := by simp [tm_sum]; decide
  generalize hTe : tm_sum s m = T at *
  have hfl : ∀ i, i ≤ m → tm_sum (tm_fl s T L) i ≤ L := fun i hi => by
    have a1 := tm_fl_le s m L (by omega)
    rw [hTe] at a1
    exact Nat.le_trans (tm_sum_mono hi) a1
  have h2 : ∃ o, tm_whl (bX4_apportion_37 N (nI L) (nI T)) N (nI L, nI 0, d) = some o ∧ (o.1 = nI (L - tm_sum (tm_fl s T L) m) ∧ (∀ j, j < m → o.2.2 3 j = nI (tm_fl s T L j) ∧ o.2.2 2 j = nI (tm_rm s T L j)) ∧ (∀ c, c ≠ 2 → c ≠ 3 → o.2.2 c = d c)) := by
    refine tm_fI (I := fun i st => st.1 = nI (L - tm_sum (tm_fl s T L) i) ∧ st.2.1 = nI i ∧ (∀ j, j < i → st.2.2 3 j = nI (tm_fl s T L j) ∧ st.2.2 2 j = nI (tm_rm s T L j)) ∧ (∀ c, c ≠ 2 → c ≠ 3 → st.2.2 c = d c)) 0 m (by omega) ?_ ?_ (by omega) ⟨by simp [tm_sum], rfl, fun j h => by omega, fun c _ _ => rfl⟩
    · rintro i ⟨x, y, z⟩ _ hi ⟨hx, hy, hz, hk⟩
      simp only at hx hy hz hk
      subst hx hy
      have k0 := hk 0 (by decide) (by decide)
      have k1 := hk 1 (by decide) (by decide)
      have hlt : s i * L < 2 ^ 30 := hsL i hi
      simp only [bX4_apportion_37]
      rw [k0, hc, if_neg (by rw [nI_leI (by omega) (by omega)]; omega), tm_gT (tm_inbN (by omega) (by omega)), tm_gT (by simp only [tm_nz, Bool.not_eq_true', decide_eq_false_iff_not]; exact nI_ne0 hT (by omega))]
      simp only [tm_nm, nI_clamp (show i < 2 ^ 31 by omega), k1, hs i hi, tm_ucN (show (1 : Nat) ≠ 3 by decide), tm_ucN (show (3 : Nat) ≠ 2 by decide), tm_ucE, pk_us, pk_mul]
      rw [pk_rem (by omega) hT (by omega), pk_div (by omega) hT (by omega), nI_1]
      have hfi := hfl (i + 1) (by omega)
      simp only [tm_sum] at hfi
      refine ⟨_, rfl, ?_, rfl, ?_, ?_⟩
      · simp only [tm_sum]
        rw [show nI (s i * L / T) = nI (tm_fl s T L i) from rfl, pk_sub (by omega), Nat.sub_sub]
      · intro j hj
        simp only [tm_ucN (show (3 : Nat) ≠ 2 by decide), tm_ucE, tm_ucN (show (2 : Nat) ≠ 3 by decide)]
        by_cases e : j = i
        · subst e
          exact ⟨pk_us, pk_us⟩
        · rw [pk_un e, pk_un e]
          exact hz j (by omega)
      · intro c h2 h3
        simp only
        rw [tm_ucN h2, tm_ucN h3]
        exact hk c h2 h3
    · rintro ⟨x, y, z⟩ ⟨hx, hy, hz, hk⟩
      simp only at hx hy hz hk
      subst hx hy
      have k0 := hk 0 (by decide) (by decide)
      simp only [bX4_apportion_37]
      rw [k0, hc, if_pos (by rw [nI_leI (by omega) (by omega)]; omega)]
      exact ⟨_, rfl, rfl, hz, hk⟩
  obtain ⟨⟨x2, y2, z2⟩, h2, hx2, hz2, hk2⟩ := h2
  simp only at hx2 hz2 hk2
  have hleft : L - tm_sum (tm_fl s T L) m = tm_left s m L := by simp only [tm_left, hTe]
  have hlm : tm_left s m L < m := tm_left_lt s m L (by omega) (by omega)
  have h3 : ∃ o, tm_whl (bX4_apportion_101 N x2) N (nI 0, z2) = some o ∧ ((∀ j, j < m → o.2 3 j = nI (tm_app s m L j)) ∧ (∀ c, c ≠ 2 → c ≠ 3 → o.2 c = d c)) := by
    refine tm_fI (I := fun t st => st.1 = nI t ∧ (∀ j, j < m → st.2 3 j = nI (tm_fl s T L j + (if tm_gv (tm_rm s T L) m t j = true then 1 else 0)) ∧ st.2 2 j = (if tm_gv (tm_rm s T L) m t j = true then -1 else nI (tm_rm s T L j))) ∧ (∀ c, c ≠ 2 → c ≠ 3 → st.2 c = d c)) 0 (tm_left s m L) (by omega) ?_ ?_ (by omega) ⟨rfl, fun j hj => ?_, hk2⟩
    · rintro t ⟨y, z⟩ _ ht ⟨hy, hz, hk⟩
      simp only at hy hz hk
      subst hy
      have k0 := hk 0 (by decide) (by decide)
      obtain ⟨b, hb1, hb2, hb3, hb4⟩ := tm_gv_step (r := tm_rm s T L) (m := m) (t := t) (by omega)
      have hvr : ∀ j, (fun j => if tm_gv (tm_rm s T L) m t j = true then (-1 : Int) else ((tm_rm s T L j : Nat) : Int)) j = if tm_gv (tm_rm s T L) m t j = true then -1 else ((tm_rm s T L j : Nat) : Int) := fun _ => rfl
      have hlr := tmX4_lr (d := z) (m := m) (v := fun j => if tm_gv (tm_rm s T L) m t j = true then (-1 : Int) else ((tm_rm s T L j : Nat) : Int)) hN (by omega) hm2 (by rw [k0]; exact hc) (fun j hj => by
        rw [(hz j hj).2]
        have hr : tm_rm s T L j < T := Nat.mod_lt _ hT
        split
        · rfl
        · exact nI_toInt (by omega))
      rw [(tm_lrv_best hvr m).2 b hb1] at hlr
      simp only [bX4_apportion_101]
      rw [hx2, hleft, if_neg (by rw [nI_leI (by omega) (by omega)]; omega), k0, hc, if_neg (by rw [nI_leI (by omega) (by omega)]; omega), hlr]
      simp only [Option.bind_some, tm_gT (tm_inbN (show b < 24 by omega) (by decide)), tm_nm, nI_clamp (show b < 2 ^ 31 by omega), nI_1]
      refine ⟨_, rfl, rfl, ?_, ?_⟩
      · intro j hj
        simp only [tm_ucN (show (3 : Nat) ≠ 2 by decide), tm_ucE, tm_ucN (show (2 : Nat) ≠ 3 by decide), hb4]
        by_cases e : j = b
        · subst e
          have g1 : (decide (j = j) || tm_gv (tm_rm s T L) m t j) = true := by simp
          refine ⟨?_, ?_⟩
          · rw [pk_us, (hz j hj).1, hb3, if_neg Bool.false_ne_true, nI_1]
            simp
          · rw [pk_us, if_pos g1]
        · have g1 : (decide (j = b) || tm_gv (tm_rm s T L) m t j) = tm_gv (tm_rm s T L) m t j := by rw [decide_eq_false e, Bool.false_or]
          refine ⟨?_, ?_⟩
          · rw [pk_un e, (hz j hj).1, g1]
          · rw [pk_un e, (hz j hj).2, g1]
      · intro c h2 h3
        simp only
        rw [tm_ucN h2, tm_ucN h3]
        exact hk c h2 h3
    · rintro ⟨y, z⟩ ⟨hy, hz, hk⟩
      simp only at hy hz hk
      subst hy
      simp only [bX4_apportion_101]
      rw [hx2, hleft, if_pos (by rw [nI_leI (by omega) (by omega)]; omega)]
      refine ⟨_, rfl, fun j hj => ?_, hk⟩
      simp only [tm_app, hTe]
      exact (hz j hj).1
    · simp only [tm_gv]
      exact ⟨by simpa using (hz2 j hj).1, by simpa using (hz2 j hj).2⟩
  obtain ⟨o3, h3, h4, h5⟩ := h3
  refine ⟨o3.2, ?_, h4, h5⟩
  simp only [fX4_apportion]
  rw [e0, h1]
  simp only [Option.bind_some]
  rw [if_pos (by rw [← nI_0, nI_ltI (by decide) (by omega)]; exact hT), ← nI_0, h2]
  simp only [Option.bind_some]
  rw [h3]
  rfl
