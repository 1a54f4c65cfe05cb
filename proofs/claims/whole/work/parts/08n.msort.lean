theorem tmX8_sort {N : Nat} (hN : 300 ≤ N) {d : tm_M} {g0 : Int64} {m : Nat} {kd S : Nat → Nat} (ho : tm_ok m kd (fun j => S (kd j))) (hk : tm_kidsM d m kd (fun j => S (kd j))) (hS : ∀ j, j < m → S (kd j) < 2 ^ 31) :
    ∃ Q, fX8_sorts N d g0 = some Q ∧ tm_kidsM Q m (fun j => kd (tm_is S kd m j)) (fun j => S (kd (tm_is S kd m j))) ∧ (∀ c, c ≠ 12 → Q c = d c) := by
  have hm1 : 1 ≤ m := ho.1
  have hm24 : m ≤ 24 := ho.2.1
  have inner : ∀ (f : Nat → Nat) (i : Nat), i < m → (∀ j, j < m → S (f j) < 2 ^ 31 ∧ f j < 24 ∧ d 11 (f j) = nI (S (f j))) → ∀ (p n : Nat) (Q : tm_M), p ≤ i → p < n → (∀ j, j < m → Q 12 j = nI (tm_gap p i f j)) → (∀ c, c ≠ 12 → Q c = d c) → ∃ Q', tm_whl (bX8_sorts_19 N (nI (f i))) n (nI p, Q) = some (nI (tm_pl S f (f i) p), Q') ∧ (∀ j, j < m → Q' 12 j = nI (tm_gap (tm_pl S f (f i) p) i f j)) ∧ (∀ c, c ≠ 12 → Q' c = d c) := by
    intro f i hi hf p
    induction p with
    | zero =>
      intro n Q _ hn hq hc
      obtain ⟨n, rfl⟩ : ∃ n', n = n' + 1 := ⟨n - 1, by omega⟩
      refine ⟨Q, ?_, hq, hc⟩
      simp only [tm_whl, bX8_sorts_19]
      rw [if_pos (by rw [← nI_0]; exact nI_le (Nat.le_refl _) (by decide))]
      rfl
    | succ p ih =>
      intro n Q hpi hn hq hc
      obtain ⟨n, rfl⟩ : ∃ n', n = n' + 1 := ⟨n - 1, by omega⟩
      have qp := hq p (by omega)
      have gp : tm_gap (p + 1) i f p = f p := by unfold tm_gap; rw [if_neg (by omega)]
      rw [gp] at qp
      obtain ⟨fi1, fi2, fi3⟩ := hf i hi
      obtain ⟨fp1, fp2, fp3⟩ := hf p (by omega)
      have hb : bX8_sorts_19 N (nI (f i)) (nI (p + 1), Q) = if S (f i) ≤ S (f p) then some (.inr (nI (p + 1), Q)) else some (.inl (nI p, tm_upc Q 12 (upd (Q 12) (p + 1) (nI (f p))))) := by
        simp only [bX8_sorts_19]
        rw [if_neg (nI_nle (by omega) (by omega)), nI_pred, tm_gT (tm_inbN (by omega) (by decide)), nI_clamp (show p < 2 ^ 31 by omega), qp, tm_gT (tm_inbN fp2 (by decide)), tm_gT (tm_inbN fi2 (by decide)), nI_clamp (show f i < 2 ^ 31 by omega), nI_clamp (show f p < 2 ^ 31 by omega), hc 11 (by decide), fi3, fp3]
        by_cases h : S (f i) ≤ S (f p)
        · rw [if_pos (by rw [nI_leI fi1 fp1]; exact h), if_pos h]
        · rw [if_neg (by rw [nI_leI fi1 fp1]; exact h), if_neg h, tm_gT (tm_inbN (by omega) (by decide)), nI_clamp (show p + 1 < 2 ^ 31 by omega)]
          simp only [tm_nm, pk_m1]
      by_cases h : S (f i) ≤ S (f p)
      · refine ⟨Q, ?_, ?_, hc⟩
        · simp only [tm_whl, hb, if_pos h, Option.bind_some, tm_pl]
          rw [if_neg (by omega)]
        · simp only [tm_pl]
          rw [if_neg (by omega)]
          exact hq
      · have k1 : ∀ j, j < m → (tm_upc Q 12 (upd (Q 12) (p + 1) (nI (f p)))) 12 j = nI (tm_gap p i f j) := by
          intro j hj
          rw [tm_ucE]
          by_cases ej : j = p + 1
          · subst ej
            rw [pk_us]
            unfold tm_gap
            rw [if_pos (by omega)]
            rfl
          · rw [pk_un ej, hq j hj]
            have : tm_gap (p + 1) i f j = tm_gap p i f j := by
              unfold tm_gap
              by_cases h2 : p + 1 < j ∧ j ≤ i
              · rw [if_pos h2, if_pos (by omega)]
              · rw [if_neg h2, if_neg (by omega)]
            rw [this]
        have k3 : ∀ c, c ≠ 12 → (tm_upc Q 12 (upd (Q 12) (p + 1) (nI (f p)))) c = d c := by
          intro c hc'
          rw [tm_ucN hc']
          exact hc c hc'
        obtain ⟨Q', r1, r2, r4⟩ := ih n _ (by omega) (by omega) k1 k3
        refine ⟨Q', ?_, ?_, r4⟩
        · simp only [tm_whl, hb, if_neg h, Option.bind_some, tm_pl]
          rw [if_pos (by omega)]
          exact r1
        · simp only [tm_pl]
          rw [if_pos (by omega)]
          exact r2
  have outer : ∃ o, tm_whl (bX8_sorts_2 N) N (nI 1, d) = some o ∧ (tm_kidsM o.2 m (fun j => kd (tm_is S kd m j)) (fun j => S (kd (tm_is S kd m j))) ∧ (∀ c, c ≠ 12 → o.2 c = d c)) := by
    refine tm_fI (I := fun k st => st.1 = nI k ∧ (∀ j, j < m → st.2 12 j = nI (kd (tm_is S kd k j))) ∧ (∀ c, c ≠ 12 → st.2 c = d c)) 1 m hm1 ?_ ?_ (by omega) ⟨rfl, ?_, fun c _ => rfl⟩
    · rintro k ⟨u, Q⟩ hk1 hkm ⟨hu, hq, hc⟩
      simp only at hu hq hc
      subst hu
      obtain ⟨i1, i2, i3, i4⟩ := tm_is_ok (S := S) (f := kd) (m := m) k (by omega)
      have hf : ∀ j, j < m → S (kd (tm_is S kd k j)) < 2 ^ 31 ∧ kd (tm_is S kd k j) < 24 ∧ d 11 (kd (tm_is S kd k j)) = nI (S (kd (tm_is S kd k j))) := fun j hj => ⟨hS _ (i1 j hj), (ho.2.2.1 _ (i1 j hj)).1, (hk.2 _ (i1 j hj)).2⟩
      obtain ⟨Q', r1, r2, r4⟩ := inner (fun t => kd (tm_is S kd k t)) k hkm hf k N Q (Nat.le_refl _) (by omega) (fun j hj => by
        have : tm_gap k k (fun t => kd (tm_is S kd k t)) j = kd (tm_is S kd k j) := by unfold tm_gap; rw [if_neg (by omega)]
        rw [this]
        exact hq j hj) hc
      have hpl := tm_pl_le (S := S) (f := fun t => kd (tm_is S kd k t)) (v := kd (tm_is S kd k k)) k
      simp only [bX8_sorts_2]
      rw [hc 0 (by decide), hk.1, if_neg (by rw [nI_leI (by omega) (by omega)]; omega), tm_gT (tm_inbN (by omega) (by decide)), nI_clamp (by omega), hq k hkm]
      simp only [tm_nm]
      rw [r1]
      simp only [Option.bind_some]
      rw [tm_gT (tm_inbN (show tm_pl S (fun t => kd (tm_is S kd k t)) (kd (tm_is S kd k k)) k < 24 by omega) (by decide)), nI_clamp (show tm_pl S (fun t => kd (tm_is S kd k t)) (kd (tm_is S kd k k)) k < 2 ^ 31 by omega), nI_1]
      refine ⟨_, rfl, rfl, ?_, ?_⟩
      · intro j hj
        simp only [tm_is]
        rw [tm_ucE]
        by_cases ej : j = tm_pl S (fun t => kd (tm_is S kd k t)) (kd (tm_is S kd k k)) k
        · rw [← ej, pk_us]
          have : tm_rot j k j = k := by unfold tm_rot; rw [if_pos rfl]
          rw [this]
        · rw [pk_un ej, r2 j hj]
          have : tm_gap (tm_pl S (fun t => kd (tm_is S kd k t)) (kd (tm_is S kd k k)) k) k (fun t => kd (tm_is S kd k t)) j = kd (tm_is S kd k (tm_rot (tm_pl S (fun t => kd (tm_is S kd k t)) (kd (tm_is S kd k k)) k) k j)) := by
            unfold tm_gap tm_rot
            rw [if_neg ej]
            split <;> rfl
          rw [this]
      · intro c hc'
        simp only
        rw [tm_ucN hc']
        exact r4 c hc'
    · rintro ⟨u, Q⟩ ⟨hu, hq, hc⟩
      simp only at hu hq hc
      subst hu
      obtain ⟨i1, i2, i3, i4⟩ := tm_is_ok (S := S) (f := kd) (m := m) m (by omega)
      simp only [bX8_sorts_2]
      rw [hc 0 (by decide), hk.1, if_pos (by rw [nI_leI (by omega) (by omega)]; omega)]
      refine ⟨_, rfl, ⟨?_, fun j hj => ⟨hq j hj, ?_⟩⟩, hc⟩
      · simp only
        rw [hc 0 (by decide)]
        exact hk.1
      · simp only
        rw [hc 11 (by decide)]
        exact (hk.2 _ (i1 j hj)).2
    · have e1 : ∀ j, tm_is S kd 1 j = j := by
        intro j
        simp only [tm_is, tm_pl]
        unfold tm_rot
        split
        · omega
        · rw [if_neg (by omega)]
      intro j hj
      simp only [e1]
      exact (hk.2 j hj).1
  obtain ⟨o, g1, g2, g3⟩ := outer
  refine ⟨o.2, ?_, g2, g3⟩
  simp only [fX8_sorts]
  rw [show ((1 : Int32), d) = (nI 1, d) from rfl, g1]
  rfl
/-- how many children the next row has: n so far, k more are there -/
def tm_rl (sz : Nat → Nat) (u : UInt32) (s : Nat) : Nat → Nat → Nat
  | 0, n => n
  | k + 1, n => if (tm_wst sz (n + 1) u s).toNat ≤ (tm_wst sz n u s).toNat then tm_rl sz u s k (n + 1) else n
theorem tm_rl_in {sz : Nat → Nat} {u : UInt32} {s : Nat} : ∀ k n, n ≤ tm_rl sz u s k n ∧ tm_rl sz u s k n ≤ n + k := by
  intro k
  induction k with
  | zero => intro n; exact ⟨Nat.le_refl _, Nat.le_refl _⟩
  | succ k ih =>
    intro n
    simp only [tm_rl]
    split
    · have := ih (n + 1); omega
    · omega
def tm_thick (sz : Nat → Nat) (r n len : Nat) : Nat := if n = r then len else (2 * tm_sum sz n * len + tm_sum sz r) / (2 * tm_sum sz r)
theorem tm_thick_le {sz : Nat → Nat} {r n len : Nat} (hn : n ≤ r) (hp : 0 < tm_sum sz r) : tm_thick sz r n len ≤ len := by
  unfold tm_thick
  split
  · exact Nat.le_refl _
  · have h1 : tm_sum sz n ≤ tm_sum sz r := tm_sum_mono hn
    refine Nat.le_of_lt_succ ((Nat.div_lt_iff_lt_mul (by omega)).mpr ?_)
    have h2 : 2 * tm_sum sz n * len ≤ 2 * tm_sum sz r * len := Nat.mul_le_mul_right _ (by omega)
    have h3 : (len + 1) * (2 * tm_sum sz r) = 2 * tm_sum sz r * len + 2 * tm_sum sz r := by
      rw [Nat.add_mul, Nat.one_mul, Nat.mul_comm len]
    rw [Nat.succ_eq_add_one, h3]
    omega
def tm_side (w h : Nat) : Nat := if h ≤ w then h else w
/-- the rectangle of the child j ≥ a, in rows, in the free rectangle (x, y, w, h) -/
def tm_sqr (sz : Nat → Nat) (m : Nat) : Nat → Nat → Nat → Nat → Nat → Nat → Nat → tm_R
  | 0, _, _, _, _, _, _ => (0, 0, 0, 0)
  | f + 1, a, x, y, w, h, j =>
    if w = 0 ∨ h = 0 then (x, y, 0, 0)
    else if j < a + tm_rl (fun t => sz (a + t)) (tm_unit w h (tm_sum (fun t => sz (a + t)) (m - a))) (tm_side w h) (m - a - 1) 1 then
      (if h ≤ w then tm_row x y (tm_thick (fun t => sz (a + t)) (m - a) (tm_rl (fun t => sz (a + t)) (tm_unit w h (tm_sum (fun t => sz (a + t)) (m - a))) (tm_side w h) (m - a - 1) 1) w) h false (fun t => sz (a + t)) (tm_rl (fun t => sz (a + t)) (tm_unit w h (tm_sum (fun t => sz (a + t)) (m - a))) (tm_side w h) (m - a - 1) 1) (j - a)
       else tm_row x y w (tm_thick (fun t => sz (a + t)) (m - a) (tm_rl (fun t => sz (a + t)) (tm_unit w h (tm_sum (fun t => sz (a + t)) (m - a))) (tm_side w h) (m - a - 1) 1) h) true (fun t => sz (a + t)) (tm_rl (fun t => sz (a + t)) (tm_unit w h (tm_sum (fun t => sz (a + t)) (m - a))) (tm_side w h) (m - a - 1) 1) (j - a))
    else if h ≤ w then tm_sqr sz m f (a + tm_rl (fun t => sz (a + t)) (tm_unit w h (tm_sum (fun t => sz (a + t)) (m - a))) (tm_side w h) (m - a - 1) 1) (x + tm_thick (fun t => sz (a + t)) (m - a) (tm_rl (fun t => sz (a + t)) (tm_unit w h (tm_sum (fun t => sz (a + t)) (m - a))) (tm_side w h) (m - a - 1) 1) w) y (w - tm_thick (fun t => sz (a + t)) (m - a) (tm_rl (fun t => sz (a + t)) (tm_unit w h (tm_sum (fun t => sz (a + t)) (m - a))) (tm_side w h) (m - a - 1) 1) w) h j
    else tm_sqr sz m f (a + tm_rl (fun t => sz (a + t)) (tm_unit w h (tm_sum (fun t => sz (a + t)) (m - a))) (tm_side w h) (m - a - 1) 1) x (y + tm_thick (fun t => sz (a + t)) (m - a) (tm_rl (fun t => sz (a + t)) (tm_unit w h (tm_sum (fun t => sz (a + t)) (m - a))) (tm_side w h) (m - a - 1) 1) h) w (h - tm_thick (fun t => sz (a + t)) (m - a) (tm_rl (fun t => sz (a + t)) (tm_unit w h (tm_sum (fun t => sz (a + t)) (m - a))) (tm_side w h) (m - a - 1) 1) h) j
