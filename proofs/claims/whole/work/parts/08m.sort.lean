/-! sorting by falling size: one insertion sort for class and reference -/
/-- where v comes to stand, from place p down -/
def tm_pl (S f : Nat → Nat) (v : Nat) : Nat → Nat
  | 0 => 0
  | p + 1 => if S (f p) < S v then tm_pl S f v p else p + 1
theorem tm_pl_le {S f : Nat → Nat} {v : Nat} : ∀ p, tm_pl S f v p ≤ p := by
  intro p
  induction p with
  | zero => exact Nat.le_refl _
  | succ p ih =>
    simp only [tm_pl]
    split
    · omega
    · omega
/-- the places p to i turned by one: i comes to p -/
def tm_rot (p i : Nat) : Nat → Nat := fun j => if j = p then i else if p < j ∧ j ≤ i then j - 1 else j
/-- shifted so far: the places behind p up to i hold their neighbours -/
def tm_gap (p i : Nat) (f : Nat → Nat) : Nat → Nat := fun j => if p < j ∧ j ≤ i then f (j - 1) else f j
/-- the order behind the first k children -/
def tm_is (S f : Nat → Nat) : Nat → (Nat → Nat)
  | 0 => fun j => j
  | k + 1 => fun j => tm_is S f k (tm_rot (tm_pl S (fun t => f (tm_is S f k t)) (f (tm_is S f k k)) k) k j)
theorem tm_rot_lt {p i m j : Nat} (hp : p ≤ i) (hi : i < m) (hj : j < m) : tm_rot p i j < m := by
  unfold tm_rot
  split
  · exact hi
  · split <;> omega
theorem tm_rot_inj {p i j k : Nat} (hp : p ≤ i) (h : tm_rot p i j = tm_rot p i k) : j = k := by
  unfold tm_rot at h
  split at h <;> split at h <;> (try split at h) <;> (try split at h) <;> omega
theorem tm_rot_sur {p i m t : Nat} (hp : p ≤ i) (hi : i < m) (ht : t < m) : ∃ j, j < m ∧ tm_rot p i j = t := by
  by_cases h1 : t = i
  · exact ⟨p, by omega, by unfold tm_rot; rw [if_pos rfl]; exact h1.symm⟩
  · by_cases h2 : p ≤ t ∧ t < i
    · refine ⟨t + 1, by omega, ?_⟩
      unfold tm_rot
      rw [if_neg (by omega), if_pos (by omega)]
      omega
    · refine ⟨t, ht, ?_⟩
      unfold tm_rot
      rw [if_neg (by omega), if_neg (by omega)]
theorem tm_sum_head (f : Nat → Nat) : ∀ n, tm_sum f (n + 1) = f 0 + tm_sum (fun t => f (t + 1)) n := by
  intro n
  induction n with
  | zero => simp only [tm_sum]; omega
  | succ n ih =>
    rw [tm_sum, ih]
    simp only [tm_sum]
    omega
theorem tm_rot_sum {g : Nat → Nat} {p i m : Nat} (hp : p ≤ i) (hi : i < m) : tm_sum (fun j => g (tm_rot p i j)) m = tm_sum g m := by
  have a1 := tm_sum_split (fun j => g (tm_rot p i j)) p (i + 1 - p)
  have a2 := tm_sum_split (fun j => g (tm_rot p i j)) (i + 1) (m - (i + 1))
  have b1 := tm_sum_split g p (i + 1 - p)
  have b2 := tm_sum_split g (i + 1) (m - (i + 1))
  rw [show p + (i + 1 - p) = i + 1 by omega] at a1 b1
  rw [show i + 1 + (m - (i + 1)) = m by omega] at a2 b2
  have c1 : tm_sum (fun j => g (tm_rot p i j)) p = tm_sum g p := tm_sum_c p (fun j hj => by unfold tm_rot; rw [if_neg (by omega), if_neg (by omega)])
  have c2 : tm_sum (fun t => g (tm_rot p i (i + 1 + t))) (m - (i + 1)) = tm_sum (fun t => g (i + 1 + t)) (m - (i + 1)) := tm_sum_c _ (fun j hj => by unfold tm_rot; rw [if_neg (by omega), if_neg (by omega)])
  have c3 : tm_sum (fun t => g (tm_rot p i (p + t))) (i + 1 - p) = tm_sum (fun t => g (p + t)) (i + 1 - p) := by
    rw [show i + 1 - p = (i - p) + 1 by omega, tm_sum_head]
    have d1 : tm_sum (fun t => g (tm_rot p i (p + (t + 1)))) (i - p) = tm_sum (fun t => g (p + t)) (i - p) := tm_sum_c _ (fun j hj => by
      unfold tm_rot
      rw [if_neg (by omega), if_pos (by omega), show p + (j + 1) - 1 = p + j by omega])
    rw [d1]
    have d2 : tm_rot p i (p + 0) = i := by unfold tm_rot; rw [if_pos (by omega)]
    rw [d2]
    simp only [tm_sum]
    rw [show p + (i - p) = i by omega]
    omega
  omega
theorem tm_is_ok {S f : Nat → Nat} {m : Nat} : ∀ k, k ≤ m → (∀ j, j < m → tm_is S f k j < m) ∧ (∀ i j, tm_is S f k i = tm_is S f k j → i = j) ∧ (∀ t, t < m → ∃ j, j < m ∧ tm_is S f k j = t) ∧ (∀ g : Nat → Nat, tm_sum (fun j => g (tm_is S f k j)) m = tm_sum g m) := by
  intro k
  induction k with
  | zero => intro _; exact ⟨fun j hj => hj, fun i j h => h, fun t ht => ⟨t, ht, rfl⟩, fun g => rfl⟩
  | succ k ih =>
    intro hk
    obtain ⟨h1, h2, h3, h4⟩ := ih (by omega)
    have hp := tm_pl_le (S := S) (f := fun t => f (tm_is S f k t)) (v := f (tm_is S f k k)) k
    refine ⟨?_, ?_, ?_, ?_⟩
    · intro j hj
      exact h1 _ (tm_rot_lt hp (by omega) hj)
    · intro i j h
      exact tm_rot_inj hp (h2 _ _ h)
    · intro t ht
      obtain ⟨j, hj, e⟩ := h3 t ht
      obtain ⟨j', hj', e'⟩ := tm_rot_sur hp (show k < m by omega) hj
      exact ⟨j', hj', by simp only [tm_is]; rw [e', e]⟩
    · intro g
      have := tm_rot_sum (g := fun j => g (tm_is S f k j)) hp (show k < m by omega)
      exact this.trans (h4 g)
theorem tm_ok_is {S kd : Nat → Nat} {m k : Nat} (hk : k ≤ m) (ho : tm_ok m kd (fun j => S (kd j))) : tm_ok m (fun j => kd (tm_is S kd k j)) (fun j => S (kd (tm_is S kd k j))) := by
  obtain ⟨h1, h2, h3, h4, h5⟩ := ho
  obtain ⟨i1, i2, i3, i4⟩ := tm_is_ok (S := S) (f := kd) k hk
  refine ⟨h1, h2, fun j hj => h3 _ (i1 j hj), fun i j hi hj e => i2 i j (h4 _ _ (i1 i hi) (i1 j hj) e), ?_⟩
  rw [i4 (fun t => S (kd t))]
  exact h5
theorem tmX2_sort {N : Nat} (hN : 300 ≤ N) {P : tm_M} {m : Nat} {kd S : Nat → Nat} (ho : tm_ok m kd (fun j => S (kd j))) (hk : tm_kids P m kd (fun j => S (kd j))) (hS : ∀ j, j < m → S (kd j) < 2 ^ 31) :
    ∃ Q, fX2_sortByFallingSize N P = some Q ∧ tm_kids Q m (fun j => kd (tm_is S kd m j)) (fun j => S (kd (tm_is S kd m j))) ∧ (∀ c, 3 ≤ c → Q c = P c) := by
  have hm1 : 1 ≤ m := ho.1
  have hm24 : m ≤ 24 := ho.2.1
  have inner : ∀ (f : Nat → Nat) (i : Nat), i < m → (∀ j, j < m → S (f j) < 2 ^ 31) → ∀ (p n : Nat) (Q : tm_M), p ≤ i → p < n → (∀ j, j < m → Q 1 j = nI (tm_gap p i f j) ∧ Q 2 j = nI (S (tm_gap p i f j))) → Q 0 2 = nI m → (∀ c, 3 ≤ c → Q c = P c) → ∃ Q', tm_whl (bX2_sortByFallingSize_27 N (nI (S (f i)))) n (nI p, Q) = some (nI (tm_pl S f (f i) p), Q') ∧ (∀ j, j < m → Q' 1 j = nI (tm_gap (tm_pl S f (f i) p) i f j) ∧ Q' 2 j = nI (S (tm_gap (tm_pl S f (f i) p) i f j))) ∧ Q' 0 2 = nI m ∧ (∀ c, 3 ≤ c → Q' c = P c) := by
    intro f i hi hf p
    induction p with
    | zero =>
      intro n Q _ hn hq h0 hc
      obtain ⟨n, rfl⟩ : ∃ n', n = n' + 1 := ⟨n - 1, by omega⟩
      refine ⟨Q, ?_, hq, h0, hc⟩
      simp only [tm_whl, bX2_sortByFallingSize_27]
      rw [if_pos (by rw [← nI_0]; exact nI_le (Nat.le_refl _) (by decide))]
      rfl
    | succ p ih =>
      intro n Q hpi hn hq h0 hc
      obtain ⟨n, rfl⟩ : ∃ n', n = n' + 1 := ⟨n - 1, by omega⟩
      have qp := hq p (by omega)
      have gp : tm_gap (p + 1) i f p = f p := by unfold tm_gap; rw [if_neg (by omega)]
      rw [gp] at qp
      have hb : bX2_sortByFallingSize_27 N (nI (S (f i))) (nI (p + 1), Q) = if S (f i) ≤ S (f p) then some (.inr (nI (p + 1), Q)) else some (.inl (nI p, tm_upc (tm_upc Q 1 (upd (Q 1) (p + 1) (nI (f p)))) 2 (upd (Q 2) (p + 1) (nI (S (f p)))))) := by
        simp only [bX2_sortByFallingSize_27]
        rw [if_neg (nI_nle (by omega) (by omega)), nI_pred, tm_gT (tm_inbN (by omega) (by decide)), nI_clamp (show p < 2 ^ 31 by omega), qp.2]
        by_cases h : S (f i) ≤ S (f p)
        · rw [if_pos (by rw [nI_leI (hf i hi) (hf p (by omega))]; exact h), if_pos h]
        · rw [if_neg (by rw [nI_leI (hf i hi) (hf p (by omega))]; exact h), if_neg h, tm_gT (tm_inbN (by omega) (by decide)), nI_clamp (show p + 1 < 2 ^ 31 by omega), qp.1]
          simp only [tm_nm, pk_m1]
          rw [show tm_upc Q 1 (upd (Q 1) (p + 1) (nI (f p))) 2 = Q 2 from tm_ucN (by decide), qp.2]
      by_cases h : S (f i) ≤ S (f p)
      · refine ⟨Q, ?_, ?_, h0, hc⟩
        · simp only [tm_whl, hb, if_pos h, Option.bind_some, tm_pl]
          rw [if_neg (by omega)]
        · simp only [tm_pl]
          rw [if_neg (by omega)]
          exact hq
      · have k1 : ∀ j, j < m → (tm_upc (tm_upc Q 1 (upd (Q 1) (p + 1) (nI (f p)))) 2 (upd (Q 2) (p + 1) (nI (S (f p))))) 1 j = nI (tm_gap p i f j) ∧ (tm_upc (tm_upc Q 1 (upd (Q 1) (p + 1) (nI (f p)))) 2 (upd (Q 2) (p + 1) (nI (S (f p))))) 2 j = nI (S (tm_gap p i f j)) := by
          intro j hj
          rw [tm_ucN (by decide), tm_ucE, tm_ucE]
          by_cases ej : j = p + 1
          · subst ej
            rw [pk_us, pk_us]
            unfold tm_gap
            rw [if_pos (by omega)]
            exact ⟨rfl, rfl⟩
          · rw [pk_un ej, pk_un ej, (hq j hj).1, (hq j hj).2]
            have : tm_gap (p + 1) i f j = tm_gap p i f j := by
              unfold tm_gap
              by_cases h2 : p + 1 < j ∧ j ≤ i
              · rw [if_pos h2, if_pos (by omega)]
              · rw [if_neg h2, if_neg (by omega)]
            rw [this]
            exact ⟨rfl, rfl⟩
        have k2 : (tm_upc (tm_upc Q 1 (upd (Q 1) (p + 1) (nI (f p)))) 2 (upd (Q 2) (p + 1) (nI (S (f p))))) 0 2 = nI m := by
          rw [tm_ucN (by decide), tm_ucN (by decide)]
          exact h0
        have k3 : ∀ c, 3 ≤ c → (tm_upc (tm_upc Q 1 (upd (Q 1) (p + 1) (nI (f p)))) 2 (upd (Q 2) (p + 1) (nI (S (f p))))) c = P c := by
          intro c hc'
          rw [tm_ucN (by omega), tm_ucN (by omega)]
          exact hc c hc'
        obtain ⟨Q', r1, r2, r3, r4⟩ := ih n _ (by omega) (by omega) k1 k2 k3
        refine ⟨Q', ?_, ?_, r3, r4⟩
        · simp only [tm_whl, hb, if_neg h, Option.bind_some, tm_pl]
          rw [if_pos (by omega)]
          exact r1
        · simp only [tm_pl]
          rw [if_pos (by omega)]
          exact r2
  have outer : ∃ o, tm_whl (bX2_sortByFallingSize_2 N) N (nI 1, P) = some o ∧ (tm_kids o.2 m (fun j => kd (tm_is S kd m j)) (fun j => S (kd (tm_is S kd m j))) ∧ (∀ c, 3 ≤ c → o.2 c = P c)) := by
    refine tm_fI (I := fun k st => st.1 = nI k ∧ tm_kids st.2 m (fun j => kd (tm_is S kd k j)) (fun j => S (kd (tm_is S kd k j))) ∧ (∀ c, 3 ≤ c → st.2 c = P c)) 1 m hm1 ?_ ?_ (by omega) ⟨rfl, ?_, fun c _ => rfl⟩
    · rintro k ⟨u, Q⟩ hk1 hkm ⟨hu, hq, hc⟩
      simp only at hu hq hc
      subst hu
      obtain ⟨i1, i2, i3, i4⟩ := tm_is_ok (S := S) (f := kd) (m := m) k (by omega)
      have hf : ∀ j, j < m → S (kd (tm_is S kd k j)) < 2 ^ 31 := fun j hj => hS _ (i1 j hj)
      obtain ⟨Q', r1, r2, r3, r4⟩ := inner (fun t => kd (tm_is S kd k t)) k hkm hf k N Q (Nat.le_refl _) (by omega) (fun j hj => by
        have : tm_gap k k (fun t => kd (tm_is S kd k t)) j = kd (tm_is S kd k j) := by unfold tm_gap; rw [if_neg (by omega)]
        rw [this]
        exact hq.2 j hj) hq.1 hc
      have hpl := tm_pl_le (S := S) (f := fun t => kd (tm_is S kd k t)) (v := kd (tm_is S kd k k)) k
      simp only [bX2_sortByFallingSize_2]
      rw [hq.1, if_neg (by rw [nI_leI (by omega) (by omega)]; omega), tm_gT (tm_inbN (by omega) (by decide)), nI_clamp (by omega), (hq.2 k hkm).1, (hq.2 k hkm).2]
      simp only [tm_nm]
      rw [r1]
      simp only [Option.bind_some]
      rw [tm_gT (tm_inbN (show tm_pl S (fun t => kd (tm_is S kd k t)) (kd (tm_is S kd k k)) k < 24 by omega) (by decide)), nI_clamp (show tm_pl S (fun t => kd (tm_is S kd k t)) (kd (tm_is S kd k k)) k < 2 ^ 31 by omega), nI_1]
      refine ⟨_, rfl, rfl, ⟨?_, ?_⟩, ?_⟩
      · simp only
        rw [tm_ucN (by decide), tm_ucN (by decide)]
        exact r3
      · intro j hj
        simp only [tm_is]
        rw [tm_ucN (by decide), tm_ucE, tm_ucE, tm_ucN (by decide)]
        by_cases ej : j = tm_pl S (fun t => kd (tm_is S kd k t)) (kd (tm_is S kd k k)) k
        · rw [← ej, pk_us, pk_us]
          have : tm_rot j k j = k := by unfold tm_rot; rw [if_pos rfl]
          rw [this]
          exact ⟨rfl, rfl⟩
        · rw [pk_un ej, pk_un ej, (r2 j hj).1, (r2 j hj).2]
          have : tm_gap (tm_pl S (fun t => kd (tm_is S kd k t)) (kd (tm_is S kd k k)) k) k (fun t => kd (tm_is S kd k t)) j = kd (tm_is S kd k (tm_rot (tm_pl S (fun t => kd (tm_is S kd k t)) (kd (tm_is S kd k k)) k) k j)) := by
            unfold tm_gap tm_rot
            rw [if_neg ej]
            split <;> rfl
          rw [this]
          exact ⟨rfl, rfl⟩
      · intro c hc'
        simp only
        rw [tm_ucN (by omega), tm_ucN (by omega)]
        exact r4 c hc'
    · rintro ⟨u, Q⟩ ⟨hu, hq, hc⟩
      simp only at hu hq hc
      subst hu
      simp only [bX2_sortByFallingSize_2]
      rw [hq.1, if_pos (by rw [nI_leI (by omega) (by omega)]; omega)]
      exact ⟨_, rfl, hq, hc⟩
    · have e1 : ∀ j, tm_is S kd 1 j = j := by
        intro j
        simp only [tm_is, tm_pl]
        unfold tm_rot
        split
        · omega
        · rw [if_neg (by omega)]
      simp only [e1]
      exact hk
  obtain ⟨o, g1, g2, g3⟩ := outer
  refine ⟨o.2, ?_, g2, g3⟩
  simp only [fX2_sortByFallingSize]
  rw [show ((1 : Int32), P) = (nI 1, P) from rfl, g1]
  rfl
