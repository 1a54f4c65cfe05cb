/-! the class's squares: the loop over the rows -/
theorem tmX2_cut0 {N : Nat} (hN : 300 ≤ N) {P : tm_M} {m a n x y w h t : Nat} {kd sz : Nat → Nat} (ho : tm_ok m kd sz) (hk : tm_kids P m kd sz) (hn : 1 ≤ n) (han : a + n ≤ m) (hh : h ≤ 200) (hb : P 3 0 = nI x ∧ P 3 1 = nI y ∧ P 3 2 = nI w ∧ P 3 3 = nI h) (ht : t = tm_thick (fun t => sz (a + t)) (m - a) n h) (htl : t ≤ h) :
    ∃ P', fX2_cutBand N P (nI a) (nI (a + n)) 0 = some P' ∧ tm_kids P' m kd sz ∧ (P' 3 0 = nI x ∧ P' 3 1 = nI (y + t) ∧ P' 3 2 = nI w ∧ P' 3 3 = nI (h - t)) ∧ (P' 4 0 = nI x ∧ P' 4 1 = nI y ∧ P' 4 2 = nI w ∧ P' 4 3 = nI t) := by
  obtain ⟨b0, b1, b2, b3⟩ := hb
  have hT := tmX2_thk (L := h) hN ho hk hn han hh
  rw [← ht] at hT
  obtain ⟨d', s1, s2, s3, s4, s5⟩ := tmX0_set (N := N) (tm_sh P 4) (nI x) (nI y) (nI w) (nI t)
  simp only [fX2_cutBand]
  rw [if_pos trivial, b0, b1, b2, b3, hT]
  simp only [Option.bind_some, s1, tm_nm]
  have e3 : tm_ins P 4 1 d' 3 = P 3 := tm_inN (by omega)
  refine ⟨_, rfl, tm_kids_eq hk ?_ ?_ ?_, ⟨?_, ?_, ?_, ?_⟩, ⟨?_, ?_, ?_, ?_⟩⟩
  · rw [tm_ukN (by decide), tm_ukN (by decide), tm_inN (by omega)]
  · rw [tm_ukN (by decide), tm_ukN (by decide), tm_inN (by omega)]
  · rw [tm_ukN (by decide), tm_ukN (by decide), tm_inN (by omega)]
  · rw [tm_ukF (by decide), tm_ukF (by decide), e3, b0]
  · rw [tm_ukF (by decide), tm_ukE, e3, b1, nI_add]
  · rw [tm_ukF (by decide), tm_ukF (by decide), e3, b2]
  · rw [tm_ukE, tm_ukF (by decide), e3, b3, pk_sub htl]
  · rw [tm_ukN (by decide), tm_ukN (by decide)]; exact s2
  · rw [tm_ukN (by decide), tm_ukN (by decide)]; exact s3
  · rw [tm_ukN (by decide), tm_ukN (by decide)]; exact s4
  · rw [tm_ukN (by decide), tm_ukN (by decide)]; exact s5
theorem tmX2_cut1 {N : Nat} (hN : 300 ≤ N) {P : tm_M} {m a n x y w h t : Nat} {kd sz : Nat → Nat} (ho : tm_ok m kd sz) (hk : tm_kids P m kd sz) (hn : 1 ≤ n) (han : a + n ≤ m) (hw : w ≤ 200) (hb : P 3 0 = nI x ∧ P 3 1 = nI y ∧ P 3 2 = nI w ∧ P 3 3 = nI h) (ht : t = tm_thick (fun t => sz (a + t)) (m - a) n w) (htl : t ≤ w) :
    ∃ P', fX2_cutBand N P (nI a) (nI (a + n)) 1 = some P' ∧ tm_kids P' m kd sz ∧ (P' 3 0 = nI (x + t) ∧ P' 3 1 = nI y ∧ P' 3 2 = nI (w - t) ∧ P' 3 3 = nI h) ∧ (P' 4 0 = nI x ∧ P' 4 1 = nI y ∧ P' 4 2 = nI t ∧ P' 4 3 = nI h) := by
  obtain ⟨b0, b1, b2, b3⟩ := hb
  have hT := tmX2_thk (L := w) hN ho hk hn han hw
  rw [← ht] at hT
  obtain ⟨d', s1, s2, s3, s4, s5⟩ := tmX0_set (N := N) (tm_sh P 4) (nI x) (nI y) (nI t) (nI h)
  simp only [fX2_cutBand]
  rw [if_neg (by decide), b0, b1, b2, b3, hT]
  simp only [Option.bind_some, s1, tm_nm]
  have e3 : tm_ins P 4 1 d' 3 = P 3 := tm_inN (by omega)
  refine ⟨_, rfl, tm_kids_eq hk ?_ ?_ ?_, ⟨?_, ?_, ?_, ?_⟩, ⟨?_, ?_, ?_, ?_⟩⟩
  · rw [tm_ukN (by decide), tm_ukN (by decide), tm_inN (by omega)]
  · rw [tm_ukN (by decide), tm_ukN (by decide), tm_inN (by omega)]
  · rw [tm_ukN (by decide), tm_ukN (by decide), tm_inN (by omega)]
  · rw [tm_ukF (by decide), tm_ukE, e3, b0, nI_add]
  · rw [tm_ukF (by decide), tm_ukF (by decide), e3, b1]
  · rw [tm_ukE, tm_ukF (by decide), e3, b2, pk_sub htl]
  · rw [tm_ukF (by decide), tm_ukF (by decide), e3, b3]
  · rw [tm_ukN (by decide), tm_ukN (by decide)]; exact s2
  · rw [tm_ukN (by decide), tm_ukN (by decide)]; exact s3
  · rw [tm_ukN (by decide), tm_ukN (by decide)]; exact s4
  · rw [tm_ukN (by decide), tm_ukN (by decide)]; exact s5
theorem tmX0_emp {N : Nat} {d : tm_M} {w h : Nat} (h2 : d 0 2 = nI w) (h3 : d 0 3 = nI h) (hw : w < 2 ^ 31) (hh : h < 2 ^ 31) : fX0_isEmpty N d = some (if w = 0 ∨ h = 0 then 1 else 0) := by
  simp only [fX0_isEmpty]
  rw [h2, h3, show (1 : Int32) = nI 1 from rfl]
  by_cases hw0 : w = 0
  · rw [if_pos (nI_lt (by omega) (by decide)), if_pos (Or.inl hw0)]
  · rw [if_neg (nI_nlt (by omega) hw)]
    by_cases hh0 : h = 0
    · rw [if_neg (nI_ge (by omega) (by decide)), if_pos (Or.inr hh0)]
    · rw [if_pos (nI_le (by omega) hh), if_neg (by omega)]
theorem tmX2_sqL {N : Nat} (hN : 300 ≤ N) {P R : tm_M} {m x y w h : Nat} {kd sz : Nat → Nat} (ho : tm_ok m kd sz) (hk : tm_kids P m kd sz) (h0 : P 3 0 = nI x) (h1 : P 3 1 = nI y) (h2 : P 3 2 = nI w) (h3 : P 3 3 = nI h) (hw : w ≤ 200) (hh : h ≤ 200) :
    ∃ P' R', (tm_whl (bX2_squarify_8 N) N ((0 : Int32), (0 : Int32), P, R)).bind (fun t_14 => tm_two t_14 (fun t_14a => some (t_14a.2.2.1, t_14a.2.2.2)) (fun t_14b => (fX2_collapse N t_14b.2.2.1 t_14b.2.2.2 t_14b.1).bind fun t_15 => (some (t_14b.2.2.1, t_15)))) = some (P', R') ∧ (∀ j, j < m → tm_at4 (R' 1) (R' 2) (R' 3) (R' 4) (kd j) (tm_sqr sz m m 0 x y w h j)) ∧ (∀ i, (∀ j, j < m → kd j ≠ i) → ∀ c, R' c i = R c i) ∧ R' 0 = R 0 := by
  have hm24 : m ≤ 24 := ho.2.1
  generalize hF : tm_sqr sz m m 0 x y w h = F
  have loop : ∀ (k a row f : Nat) (x y w h : Nat) (n : Nat) (P V : tm_M), a + k = m → row ≤ a → k ≤ f → k < n → tm_kids P m kd sz → P 3 0 = nI x → P 3 1 = nI y → P 3 2 = nI w → P 3 3 = nI h → w ≤ 200 → h ≤ 200 → (∀ j, a ≤ j → j < m → F j = tm_sqr sz m f a x y w h j) → (∀ j, j < a → tm_at4 (V 1) (V 2) (V 3) (V 4) (kd j) (F j)) → (∀ i, (∀ j, j < m → kd j ≠ i) → ∀ c, V c i = R c i) → V 0 = R 0 →
      ∃ P' R', (tm_whl (bX2_squarify_8 N) n (nI a, nI row, P, V)).bind (fun t_14 => tm_two t_14 (fun t_14a => some (t_14a.2.2.1, t_14a.2.2.2)) (fun t_14b => (fX2_collapse N t_14b.2.2.1 t_14b.2.2.2 t_14b.1).bind fun t_15 => (some (t_14b.2.2.1, t_15)))) = some (P', R') ∧ (∀ j, j < m → tm_at4 (R' 1) (R' 2) (R' 3) (R' 4) (kd j) (F j)) ∧ (∀ i, (∀ j, j < m → kd j ≠ i) → ∀ c, R' c i = R c i) ∧ R' 0 = R 0 := by
    intro k
    induction k using Nat.strongRecOn with
    | ind k ih =>
      intro a row f x y w h n P V hak hra hkf hkn hk h0 h1 h2 h3 hw hh hFj hV hfr hV0
      obtain ⟨n, rfl⟩ : ∃ n', n = n' + 1 := ⟨n - 1, by omega⟩
      by_cases ham : a = m
      · -- all placed
        have hb : bX2_squarify_8 N (nI a, nI row, P, V) = some (.inr (.inl (nI a, nI row, P, V))) := by
          simp only [bX2_squarify_8]
          rw [hk.1]
          by_cases hr : m ≤ row
          · rw [if_pos (nI_le hr (by omega))]
          · rw [if_neg (by rw [nI_leI (by omega) (by omega)]; exact hr), if_pos (nI_le (by omega) (by omega))]
        simp only [tm_whl, hb, Option.bind_some, tm_two]
        exact ⟨_, _, rfl, fun j hj => hV j (by omega), hfr, hV0⟩
      · have haM : a < m := by omega
        obtain ⟨f, rfl⟩ : ∃ f', f = f' + 1 := ⟨f - 1, by omega⟩
        have hemp := tmX0_emp (N := N) (d := tm_sh P 3) (w := w) (h := h) h2 h3 (by omega) (by omega)
        by_cases hz : w = 0 ∨ h = 0
        · -- no room is left
          rw [if_pos hz] at hemp
          have hb : bX2_squarify_8 N (nI a, nI row, P, V) = some (.inr (.inr (nI a, nI row, P, V))) := by
            simp only [bX2_squarify_8]
            rw [hk.1, if_neg (by rw [nI_leI (by omega) (by omega)]; omega), if_neg (by rw [nI_leI (by omega) (by omega)]; omega), hemp]
            simp only [Option.bind_some]
            rw [if_neg (by decide)]
          obtain ⟨R', c1, c2, c3, c4⟩ := tmX2_coll (R := V) hN ho hk (show a ≤ m by omega) h0 h1
          simp only [tm_whl, hb, Option.bind_some, tm_two, c1]
          refine ⟨_, _, rfl, ?_, ?_, c4.trans hV0⟩
          · intro j hj
            by_cases hja : a ≤ j
            · rw [hFj j hja hj, tm_sqr_0 hz]
              exact c2 j hja hj
            · have hne : ∀ j', a ≤ j' → j' < m → kd j' ≠ kd j := fun j' h1 h2 hh => by
                have := ho.2.2.2.1 j' j h2 hj hh
                omega
              have := hV j (by omega)
              simp only [tm_at4] at this ⊢
              rw [c3 _ hne, c3 _ hne, c3 _ hne, c3 _ hne]
              exact this
          · intro i hi c
            rw [c3 i (fun j _ h2 => hi j h2)]
            exact hfr i hi c
        · rw [if_neg hz] at hemp
          have hw1 : 1 ≤ w ∧ w ≤ 200 := by omega
          have hh1 : 1 ≤ h ∧ h ≤ 200 := by omega
          have heor := tmX2_eor hN ho hk haM h2 h3 hw1 hh1
          obtain ⟨r1, r2⟩ := tm_rn_in (sz := sz) (w := w) (h := h) haM
          have hs := tm_okS (a := a) (n := m - a) ho (by omega)
          have hp : 0 < tm_sum (fun t => sz (a + t)) (m - a) := tm_sum_pos (by omega) (fun j hj => (hs.1 j hj).1)
          -- what is common to both directions
          have go : ∀ (bs : Bool) (x' y' w' h' bx bw bh : Nat) (P1 P2 V1 : tm_M), bX2_squarify_8 N (nI a, nI row, P, V) = some (.inl (nI (a + tm_rn sz m a w h), nI (row + 1), P2, V1)) → tm_kids P1 m kd sz → (P1 3 0 = nI x' ∧ P1 3 1 = nI y' ∧ P1 3 2 = nI w' ∧ P1 3 3 = nI h') → w' ≤ 200 → h' ≤ 200 → (∀ c, c < 5 ∨ 9 ≤ c → P2 c = P1 c) → (∀ j, a ≤ j → j < a + tm_rn sz m a w h → tm_at4 (V1 1) (V1 2) (V1 3) (V1 4) (kd j) (tm_row x y bw bh bs (fun t => sz (a + t)) (a + tm_rn sz m a w h - a) (j - a))) → (∀ i, (∀ j, a ≤ j → j < a + tm_rn sz m a w h → kd j ≠ i) → ∀ c, V1 c i = V c i) → V1 0 = V 0 → (∀ j, a ≤ j → j < m → F j = if j < a + tm_rn sz m a w h then tm_row x y bw bh bs (fun t => sz (a + t)) (tm_rn sz m a w h) (j - a) else tm_sqr sz m f (a + tm_rn sz m a w h) x' y' w' h' j) →
              ∃ P' R', (tm_whl (bX2_squarify_8 N) (n + 1) (nI a, nI row, P, V)).bind (fun t_14 => tm_two t_14 (fun t_14a => some (t_14a.2.2.1, t_14a.2.2.2)) (fun t_14b => (fX2_collapse N t_14b.2.2.1 t_14b.2.2.2 t_14b.1).bind fun t_15 => (some (t_14b.2.2.1, t_15)))) = some (P', R') ∧ (∀ j, j < m → tm_at4 (R' 1) (R' 2) (R' 3) (R' 4) (kd j) (F j)) ∧ (∀ i, (∀ j, j < m → kd j ≠ i) → ∀ c, R' c i = R c i) ∧ R' 0 = R 0 := by
            intro bs x' y' w' h' bx bw bh P1 P2 V1 hb hk1 hb3 hw' hh' hP2 hrow hfr1 hV10 hFs
            simp only [tm_whl, hb, Option.bind_some]
            refine ih (m - (a + tm_rn sz m a w h)) (by omega) (a + tm_rn sz m a w h) (row + 1) f x' y' w' h' n P2 V1 (by omega) (by omega) (by omega) (by omega) (tm_kids_eq hk1 (hP2 0 (by omega)) (hP2 1 (by omega)) (hP2 2 (by omega))) (by rw [hP2 3 (by omega)]; exact hb3.1) (by rw [hP2 3 (by omega)]; exact hb3.2.1) (by rw [hP2 3 (by omega)]; exact hb3.2.2.1) (by rw [hP2 3 (by omega)]; exact hb3.2.2.2) hw' hh' ?_ ?_ ?_ (hV10.trans hV0)
            · intro j h1 h2
              rw [hFs j (by omega) h2, if_neg (by omega)]
            · intro j hj
              by_cases hja : a ≤ j
              · rw [hFs j hja (by omega), if_pos hj]
                have := hrow j hja hj
                rwa [show a + tm_rn sz m a w h - a = tm_rn sz m a w h by omega] at this
              · have hne : ∀ j', a ≤ j' → j' < a + tm_rn sz m a w h → kd j' ≠ kd j := fun j' h1 h2 hh => by
                  have := ho.2.2.2.1 j' j (by omega) (by omega) hh
                  omega
                have := hV j (by omega)
                simp only [tm_at4] at this ⊢
                rw [hfr1 _ hne, hfr1 _ hne, hfr1 _ hne, hfr1 _ hne]
                exact this
            · intro i hi c
              rw [hfr1 i (fun j _ h2 => hi j (by omega))]
              exact hfr i hi c
          by_cases hwh : h ≤ w
          · have htt : tm_tn sz m a w h = tm_thick (fun t => sz (a + t)) (m - a) (tm_rn sz m a w h) w := by
              unfold tm_tn
              rw [if_pos hwh]
            have htl : tm_tn sz m a w h ≤ w := by
              rw [htt]
              exact tm_thick_le (by omega) hp
            obtain ⟨P1, k1, k2, k3, k4⟩ := tmX2_cut1 hN ho hk r1 r2 hw ⟨h0, h1, h2, h3⟩ htt htl
            obtain ⟨P2, V1, v1, v2, v3, v4, v5⟩ := tmX2_fill (R := V) (bs := false) (b := 0) hN rfl ho k2 (show a < a + tm_rn sz m a w h by omega) r2 k4 (by omega) hh
            refine go false (x + tm_tn sz m a w h) y (w - tm_tn sz m a w h) h x (tm_tn sz m a w h) h P1 P2 V1 ?_ k2 k3 (by omega) hh v2 v3 v4 v5 ?_
            · simp only [bX2_squarify_8]
              rw [hk.1, if_neg (by rw [nI_leI (by omega) (by omega)]; omega), if_neg (by rw [nI_leI (by omega) (by omega)]; omega), hemp]
              simp only [Option.bind_some]
              rw [if_pos trivial, heor]
              simp only [Option.bind_some]
              rw [h2, h3, if_neg (nI_nlt hwh (by omega)), k1]
              simp only [Option.bind_some, v1, tm_nm, nI_1]
            · intro j h1 h2
              rw [hFj j h1 h2, tm_sqr_1 hz hwh]
          · have htt : tm_tn sz m a w h = tm_thick (fun t => sz (a + t)) (m - a) (tm_rn sz m a w h) h := by
              unfold tm_tn
              rw [if_neg hwh]
            have htl : tm_tn sz m a w h ≤ h := by
              rw [htt]
              exact tm_thick_le (by omega) hp
            obtain ⟨P1, k1, k2, k3, k4⟩ := tmX2_cut0 hN ho hk r1 r2 hh ⟨h0, h1, h2, h3⟩ htt htl
            obtain ⟨P2, V1, v1, v2, v3, v4, v5⟩ := tmX2_fill (R := V) (bs := true) (b := 1) hN rfl ho k2 (show a < a + tm_rn sz m a w h by omega) r2 k4 hw (by omega)
            refine go true x (y + tm_tn sz m a w h) w (h - tm_tn sz m a w h) x w (tm_tn sz m a w h) P1 P2 V1 ?_ k2 k3 hw (by omega) v2 v3 v4 v5 ?_
            · simp only [bX2_squarify_8]
              rw [hk.1, if_neg (by rw [nI_leI (by omega) (by omega)]; omega), if_neg (by rw [nI_leI (by omega) (by omega)]; omega), hemp]
              simp only [Option.bind_some]
              rw [if_pos trivial, heor]
              simp only [Option.bind_some]
              rw [h2, h3, if_pos (nI_lt (by omega) (by omega)), k1]
              simp only [Option.bind_some, v1, tm_nm, nI_1]
            · intro j h1 h2
              rw [hFj j h1 h2, tm_sqr_2 hz hwh]
  exact loop m 0 0 m x y w h N P R (by omega) (by omega) (by omega) (by omega) hk h0 h1 h2 h3 hw hh (fun j _ _ => by rw [hF]) (fun j hj => by omega) (fun i _ c => rfl) rfl
theorem tmX2_square {N : Nat} (hN : 300 ≤ N) {P R : tm_M} {m x y w h : Nat} {kd S : Nat → Nat} (ho : tm_ok m kd (fun j => S (kd j))) (hk : tm_kids P m kd (fun j => S (kd j))) (h0 : P 3 0 = nI x) (h1 : P 3 1 = nI y) (h2 : P 3 2 = nI w) (h3 : P 3 3 = nI h) (hw : w ≤ 200) (hh : h ≤ 200) (hS : ∀ j, j < m → S (kd j) < 2 ^ 31) :
    ∃ P' R', fX2_squarify N P R = some (P', R') ∧ (∀ j, j < m → tm_at4 (R' 1) (R' 2) (R' 3) (R' 4) (kd (tm_is S kd m j)) (tm_sqr (fun j => S (kd (tm_is S kd m j))) m m 0 x y w h j)) ∧ (∀ i, (∀ j, j < m → kd j ≠ i) → ∀ c, R' c i = R c i) ∧ R' 0 = R 0 := by
  obtain ⟨Q, q1, q2, q3⟩ := tmX2_sort hN ho hk hS
  obtain ⟨P', R', g1, g2, g3, g4⟩ := tmX2_sqL (R := R) hN (tm_ok_is (Nat.le_refl m) ho) q2 (by rw [q3 3 (by omega)]; exact h0) (by rw [q3 3 (by omega)]; exact h1) (by rw [q3 3 (by omega)]; exact h2) (by rw [q3 3 (by omega)]; exact h3) hw hh
  refine ⟨P', R', ?_, g2, ?_, g4⟩
  · simp only [fX2_squarify, q1, Option.bind_some]
    exact g1
  · intro i hi c
    obtain ⟨i1, i2, i3, i4⟩ := tm_is_ok (S := S) (f := kd) (m := m) m (Nat.le_refl m)
    exact g3 i (fun j hj => hi _ (i1 j hj)) c
