/-! the reference's squares -/
theorem tmX8_rowOf {N : Nat} (hN : 300 ≤ N) {d : tm_M} {g0 : Int64} {m a s : Nat} {kd sz : Nat → Nat} {u : UInt32} (ho : tm_ok m kd sz) (hk : tm_kidsM d m kd sz) (ham : a < m) (hsd : 1 ≤ s ∧ s ≤ 200) (hu : tm_pf 114 145 u) : fX8_rowOf N d g0 (nI a) u (nI s) = some (nI (tm_rl (fun t => sz (a + t)) u s (m - a - 1) 1)) := by
  have hm24 : m ≤ 24 := ho.2.1
  have loop : ∀ k n F, 1 ≤ n → a + n + k = m → k < F → tm_whl (bX8_rowOf_3 N d g0 (nI a) u (nI s)) F (nI n) = some (nI (tm_rl (fun t => sz (a + t)) u s k n)) := by
    intro k
    induction k with
    | zero =>
      intro n F hn hk0 hF
      obtain ⟨F, rfl⟩ : ∃ F', F = F' + 1 := ⟨F - 1, by omega⟩
      simp only [tm_whl, bX8_rowOf_3]
      rw [hk.1, nI_add, if_pos (nI_le (by omega) (by omega))]
      rfl
    | succ k ih =>
      intro n F hn hk0 hF
      obtain ⟨F, rfl⟩ : ∃ F', F = F' + 1 := ⟨F - 1, by omega⟩
      have hw1 := tmX8_wst (g0 := g0) (a := a) (n := n + 1) hN ho hk (by omega) (by omega) hsd hu
      have hw2 := tmX8_wst (g0 := g0) (a := a) (n := n) hN ho hk (by omega) (by omega) hsd hu
      have p1 := tm_wst_lt (a := a) (n := n + 1) ho (by omega) (by omega) hsd hu
      have p2 := tm_wst_lt (a := a) (n := n) ho (by omega) (by omega) hsd hu
      have hcmp := (tm_cmp (op := .g) p1 p2).2.2
      have hb : bX8_rowOf_3 N d g0 (nI a) u (nI s) (nI n) = if (tm_wst (fun t => sz (a + t)) (n + 1) u s).toNat ≤ (tm_wst (fun t => sz (a + t)) n u s).toNat then some (.inl (nI (n + 1))) else some (.inr (nI n)) := by
        simp only [bX8_rowOf_3]
        rw [hk.1, nI_add, if_neg (by rw [nI_leI (by omega) (by omega)]; omega), nI_1, hw1]
        simp only [Option.bind_some, hw2, tm_nm]
        by_cases h : (tm_wst (fun t => sz (a + t)) (n + 1) u s).toNat ≤ (tm_wst (fun t => sz (a + t)) n u s).toNat
        · rw [if_neg (fun hc => by have := hcmp.mp hc; omega), if_pos h]
        · rw [if_pos (hcmp.mpr (by omega)), if_neg h]
      simp only [tm_whl, hb, tm_rl]
      by_cases h : (tm_wst (fun t => sz (a + t)) (n + 1) u s).toNat ≤ (tm_wst (fun t => sz (a + t)) n u s).toNat
      · rw [if_pos h, if_pos h]
        simp only [Option.bind_some]
        exact ih (n + 1) F (by omega) (by omega) (by omega)
      · rw [if_neg h, if_neg h]
        rfl
  simp only [fX8_rowOf]
  rw [show (1 : Int32) = nI 1 from rfl, loop (m - a - 1) 1 N (by omega) (by omega) (by omega)]
  rfl
theorem tmX8_sqL {N : Nat} (hN : 300 ≤ N) {d : tm_M} {g0 : Int64} {m x y w h : Nat} {kd sz : Nat → Nat} (ho : tm_ok m kd sz) (hk : tm_kidsM d m kd sz) (hw : w ≤ 200) (hh : h ≤ 200) :
    ∃ d', ((tm_whl (bX8_laysSquares_20 N g0) N (nI x, nI y, nI w, nI h, (0 : Int32), d)).bind fun t_49 => some t_49.2.2.2.2.2) = some d' ∧ (∀ c, c < 4 ∨ 10 ≤ c → d' c = d c) ∧ (∀ j, j < m → tm_at4 (d' 6) (d' 7) (d' 8) (d' 9) (kd j) (tm_sqr sz m m 0 x y w h j)) ∧ (∀ i, (∀ j, j < m → kd j ≠ i) → ∀ c, 6 ≤ c → d' c i = d c i) := by
  have hm24 : m ≤ 24 := ho.2.1
  generalize hF : tm_sqr sz m m 0 x y w h = F
  have loop : ∀ (k a f : Nat) (x y w h : Nat) (n : Nat) (V : tm_M), a + k = m → k ≤ f → k < n → tm_kidsM V m kd sz → w ≤ 200 → h ≤ 200 → (∀ j, a ≤ j → j < m → F j = tm_sqr sz m f a x y w h j) → (∀ j, j < a → tm_at4 (V 6) (V 7) (V 8) (V 9) (kd j) (F j)) → (∀ i, (∀ j, j < m → kd j ≠ i) → ∀ c, 6 ≤ c → V c i = d c i) → (∀ c, c < 4 ∨ 10 ≤ c → V c = d c) →
      ∃ d', ((tm_whl (bX8_laysSquares_20 N g0) n (nI x, nI y, nI w, nI h, nI a, V)).bind fun t_49 => some t_49.2.2.2.2.2) = some d' ∧ (∀ c, c < 4 ∨ 10 ≤ c → d' c = d c) ∧ (∀ j, j < m → tm_at4 (d' 6) (d' 7) (d' 8) (d' 9) (kd j) (F j)) ∧ (∀ i, (∀ j, j < m → kd j ≠ i) → ∀ c, 6 ≤ c → d' c i = d c i) := by
    intro k
    induction k using Nat.strongRecOn with
    | ind k ih =>
      intro a f x y w h n V hak hkf hkn hk hw hh hFj hV hfr hVc
      obtain ⟨n, rfl⟩ : ∃ n', n = n' + 1 := ⟨n - 1, by omega⟩
      by_cases ham : a = m
      · have hb : bX8_laysSquares_20 N g0 (nI x, nI y, nI w, nI h, nI a, V) = some (.inr (nI x, nI y, nI w, nI h, nI a, V)) := by
          simp only [bX8_laysSquares_20]
          rw [hk.1, if_pos (nI_le (by omega) (by omega))]
        simp only [tm_whl, hb, Option.bind_some]
        exact ⟨_, rfl, hVc, fun j hj => hV j (by omega), hfr⟩
      · have haM : a < m := by omega
        obtain ⟨f, rfl⟩ : ∃ f', f = f' + 1 := ⟨f - 1, by omega⟩
        by_cases hz : w = 0 ∨ h = 0
        · -- no room is left
          have hkd : kd a < 24 := (ho.2.2.1 a haM).1
          obtain ⟨V1, g1, g2, g3, g4⟩ := tmX8_puts (N := N) (d := V) (g0 := g0) hkd (nI x) (nI y) 0 0
          have hb : bX8_laysSquares_20 N g0 (nI x, nI y, nI w, nI h, nI a, V) = some (.inl (nI x, nI y, nI w, nI h, nI (a + 1), V1)) := by
            simp only [bX8_laysSquares_20]
            rw [hk.1, if_neg (by rw [nI_leI (by omega) (by omega)]; omega), tm_gT (tm_inbN (show a < 24 by omega) (by decide)), nI_clamp (show a < 2 ^ 31 by omega), (hk.2 a haM).1, g1]
            simp only [Option.bind_some, tm_nm, nI_1]
            by_cases hw0 : w = 0
            · subst hw0
              rw [if_pos nI_0]
            · rw [if_neg (nI_ne0 (by omega) (by omega)), if_pos (by rw [show h = 0 by omega]; exact nI_0)]
          simp only [tm_whl, hb, Option.bind_some]
          refine ih (m - (a + 1)) (by omega) (a + 1) (f + 1) x y w h n V1 (by omega) (by omega) (by omega) (tm_kidsM_eq hk (g4 0 (by omega)) (g4 11 (by omega)) (g4 12 (by omega))) hw hh ?_ ?_ ?_ (fun c hc => by rw [g4 c (by omega)]; exact hVc c hc)
          · intro j h1 h2
            rw [hFj j (by omega) h2, tm_sqr_0 hz, tm_sqr_0 hz]
          · intro j hj
            by_cases hja : j = a
            · subst hja
              rw [hFj j (by omega) haM, tm_sqr_0 hz]
              exact ⟨g2.1, g2.2.1, g2.2.2.1, g2.2.2.2⟩
            · have hne : kd j ≠ kd a := fun hh => hja (ho.2.2.2.1 j a (by omega) haM hh)
              have := hV j (by omega)
              simp only [tm_at4] at this ⊢
              rw [g3 _ hne, g3 _ hne, g3 _ hne, g3 _ hne]
              exact this
          · intro i hi c hc
            rw [g3 i (fun hh => hi a haM hh.symm)]
            exact hfr i hi c hc
        · have hw1 : 1 ≤ w ∧ w ≤ 200 := by omega
          have hh1 : 1 ≤ h ∧ h ≤ 200 := by omega
          obtain ⟨r1, r2⟩ := tm_rn_in (sz := sz) (w := w) (h := h) haM
          have hs := tm_okS (a := a) (n := m - a) ho (by omega)
          have hp : 0 < tm_sum (fun t => sz (a + t)) (m - a) := tm_sum_pos (by omega) (fun j hj => (hs.1 j hj).1)
          have hu := tm_unit_pf hw1 hh1 ⟨hp, hs.2⟩
          have hs2 := tm_okS (a := a) (n := tm_rn sz m a w h) ho r2
          have hsum := tmX8_sumOf (g0 := g0) (a := a) (n := m - a) hN ho hk (by omega)
          have hsum2 := tmX8_sumOf (g0 := g0) (a := a) (n := tm_rn sz m a w h) hN ho hk r2
          have hro := tmX8_rowOf (g0 := g0) hN ho hk haM (tm_side_in hw1 hh1) hu
          have hmul : nI w * nI h = nI (w * h) := pk_mul _ _
          have hun : FP.fdiv (FP.i2f (nI (w * h))) (FP.i2f (nI (tm_sum (fun t => sz (a + t)) (m - a)))) = tm_unit w h (tm_sum (fun t => sz (a + t)) (m - a)) := rfl
          have hnn := tm_pf_nn hu (by decide)
          rw [show tm_rl (fun t => sz (a + t)) (tm_unit w h (tm_sum (fun t => sz (a + t)) (m - a))) (tm_side w h) (m - a - 1) 1 = tm_rn sz m a w h from rfl] at hro
          -- the thickness as the reference computes it
          have hthk : ∀ L, L ≤ 200 → ¬ a + tm_rn sz m a w h = m → tm_nz (2 * nI (tm_sum (fun t => sz (a + t)) (m - a))) = true ∧ (((2 * nI (tm_sum (fun t => sz (a + t)) (tm_rn sz m a w h))) * nI L) + nI (tm_sum (fun t => sz (a + t)) (m - a))) / (2 * nI (tm_sum (fun t => sz (a + t)) (m - a))) = nI (tm_thick (fun t => sz (a + t)) (m - a) (tm_rn sz m a w h) L) := by
            intro L hL hne
            have hq : tm_sum (fun t => sz (a + t)) (tm_rn sz m a w h) * L ≤ 2400 * 200 := Nat.mul_le_mul hs2.2 hL
            have hT := hs.2
            have hT2 := hs2.2
            unfold tm_thick
            rw [if_neg (by omega)]
            generalize tm_sum (fun t => sz (a + t)) (m - a) = T at *
            generalize tm_sum (fun t => sz (a + t)) (tm_rn sz m a w h) = S at *
            have h2 : (2 : Int32) = nI 2 := rfl
            rw [h2, pk_mul, pk_mul, pk_mul, nI_add]
            exact ⟨by simp only [tm_nz, Bool.not_eq_true', decide_eq_false_iff_not]; exact nI_ne0 (by omega) (by omega), by rw [pk_div (by rw [Nat.mul_assoc]; omega) (by omega) (by omega)]⟩
          -- what is common to both directions
          have go : ∀ (bs : Bool) (x' y' w' h' bw bh : Nat) (V1 : tm_M), bX8_laysSquares_20 N g0 (nI x, nI y, nI w, nI h, nI a, V) = some (.inl (nI x', nI y', nI w', nI h', nI (a + tm_rn sz m a w h), V1)) → w' ≤ 200 → h' ≤ 200 → (∀ c, c < 4 ∨ 10 ≤ c → V1 c = V c) → (∀ j, a ≤ j → j < a + tm_rn sz m a w h → tm_at4 (V1 6) (V1 7) (V1 8) (V1 9) (kd j) (tm_row x y bw bh bs (fun t => sz (a + t)) (tm_rn sz m a w h) (j - a))) → (∀ i, (∀ j, a ≤ j → j < a + tm_rn sz m a w h → kd j ≠ i) → ∀ c, 6 ≤ c → V1 c i = V c i) → (∀ j, a ≤ j → j < m → F j = if j < a + tm_rn sz m a w h then tm_row x y bw bh bs (fun t => sz (a + t)) (tm_rn sz m a w h) (j - a) else tm_sqr sz m f (a + tm_rn sz m a w h) x' y' w' h' j) →
              ∃ d', ((tm_whl (bX8_laysSquares_20 N g0) (n + 1) (nI x, nI y, nI w, nI h, nI a, V)).bind fun t_49 => some t_49.2.2.2.2.2) = some d' ∧ (∀ c, c < 4 ∨ 10 ≤ c → d' c = d c) ∧ (∀ j, j < m → tm_at4 (d' 6) (d' 7) (d' 8) (d' 9) (kd j) (F j)) ∧ (∀ i, (∀ j, j < m → kd j ≠ i) → ∀ c, 6 ≤ c → d' c i = d c i) := by
            intro bs x' y' w' h' bw bh V1 hb hw' hh' hV1 hrow hfr1 hFs
            simp only [tm_whl, hb, Option.bind_some]
            refine ih (m - (a + tm_rn sz m a w h)) (by omega) (a + tm_rn sz m a w h) f x' y' w' h' n V1 (by omega) (by omega) (by omega) (tm_kidsM_eq hk (hV1 0 (by omega)) (hV1 11 (by omega)) (hV1 12 (by omega))) hw' hh' ?_ ?_ ?_ (fun c hc => by rw [hV1 c hc]; exact hVc c hc)
            · intro j h1 h2
              rw [hFs j (by omega) h2, if_neg (by omega)]
            · intro j hj
              by_cases hja : a ≤ j
              · rw [hFs j hja (by omega), if_pos hj]
                exact hrow j hja hj
              · have hne : ∀ j', a ≤ j' → j' < a + tm_rn sz m a w h → kd j' ≠ kd j := fun j' h1 h2 hh => by
                  have := ho.2.2.2.1 j' j (by omega) (by omega) hh
                  omega
                have := hV j (by omega)
                simp only [tm_at4] at this ⊢
                rw [hfr1 _ hne _ (by omega), hfr1 _ hne _ (by omega), hfr1 _ hne _ (by omega), hfr1 _ hne _ (by omega)]
                exact this
            · intro i hi c hc
              rw [hfr1 i (fun j _ h2 => hi j (by omega)) c hc]
              exact hfr i hi c hc
          have hx0 : ∀ q : Nat, nI q + 0 = nI q := fun q => by rw [← nI_0, nI_add, Nat.add_zero]
          have hx1 : ∀ q : Nat, nI q - 0 = nI q := fun q => by rw [← nI_0, pk_sub (Nat.zero_le _), Nat.sub_zero]
          by_cases hwh : h ≤ w
          · have hsd : tm_side w h = h := by unfold tm_side; rw [if_pos hwh]
            rw [hsd] at hro
            have htt : tm_tn sz m a w h = tm_thick (fun t => sz (a + t)) (m - a) (tm_rn sz m a w h) w := by
              unfold tm_tn
              rw [if_pos hwh]
            have htl : tm_tn sz m a w h ≤ w := by
              rw [htt]
              exact tm_thick_le (by omega) hp
            obtain ⟨V1, v1, v2, v3, v4⟩ := tmX8_row (g0 := g0) (x := x) (y := y) (w := tm_tn sz m a w h) (h := h) (bs := false) (b := 0) hN rfl ho hk r1 r2 (by omega) hh
            refine go false (x + tm_tn sz m a w h) y (w - tm_tn sz m a w h) h (tm_tn sz m a w h) h V1 ?_ (by omega) hh v2 v3 v4 ?_
            · simp only [bX8_laysSquares_20]
              rw [hk.1, if_neg (by rw [nI_leI (by omega) (by omega)]; omega), if_neg (nI_ne0 (by omega) (by omega)), if_neg (nI_ne0 (by omega) (by omega)), pk_sub (show a ≤ m by omega), hsum]
              simp only [Option.bind_some]
              rw [if_neg (nI_nlt hwh (by omega)), hmul, hun, tm_gT hnn, hro]
              simp only [Option.bind_some, nI_add]
              by_cases hend : a + tm_rn sz m a w h = m
              · have ht : tm_tn sz m a w h = w := by
                  rw [htt]
                  unfold tm_thick
                  rw [if_pos (by omega)]
                rw [ht] at v1 ⊢
                rw [if_pos (by rw [hend]), v1]
                simp only [Option.bind_some, tm_nm, hx0, hx1, pk_sub (Nat.le_refl w)]
              · obtain ⟨t1, t2⟩ := hthk w hw hend
                rw [if_neg (by rw [nI_eq (by omega) (by omega)]; exact hend), hsum2]
                simp only [Option.bind_some]
                rw [tm_gT t1, t2, ← htt]
                simp only [tm_nm, v1, Option.bind_some, hx0, hx1, pk_sub htl, nI_add]
            · intro j h1 h2
              rw [hFj j h1 h2, tm_sqr_1 hz hwh]
          · have hsd : tm_side w h = w := by unfold tm_side; rw [if_neg hwh]
            rw [hsd] at hro
            have htt : tm_tn sz m a w h = tm_thick (fun t => sz (a + t)) (m - a) (tm_rn sz m a w h) h := by
              unfold tm_tn
              rw [if_neg hwh]
            have htl : tm_tn sz m a w h ≤ h := by
              rw [htt]
              exact tm_thick_le (by omega) hp
            obtain ⟨V1, v1, v2, v3, v4⟩ := tmX8_row (g0 := g0) (x := x) (y := y) (w := w) (h := tm_tn sz m a w h) (bs := true) (b := 1) hN rfl ho hk r1 r2 hw (by omega)
            refine go true x (y + tm_tn sz m a w h) w (h - tm_tn sz m a w h) w (tm_tn sz m a w h) V1 ?_ hw (by omega) v2 v3 v4 ?_
            · simp only [bX8_laysSquares_20]
              rw [hk.1, if_neg (by rw [nI_leI (by omega) (by omega)]; omega), if_neg (nI_ne0 (by omega) (by omega)), if_neg (nI_ne0 (by omega) (by omega)), pk_sub (show a ≤ m by omega), hsum]
              simp only [Option.bind_some]
              rw [if_pos (nI_lt (by omega) (by omega)), hmul, hun, tm_gT hnn, hro]
              simp only [Option.bind_some, nI_add]
              by_cases hend : a + tm_rn sz m a w h = m
              · have ht : tm_tn sz m a w h = h := by
                  rw [htt]
                  unfold tm_thick
                  rw [if_pos (by omega)]
                rw [ht] at v1 ⊢
                rw [if_pos (by rw [hend]), v1]
                simp only [Option.bind_some, tm_nm, hx0, hx1, pk_sub (Nat.le_refl h)]
              · obtain ⟨t1, t2⟩ := hthk h hh hend
                rw [if_neg (by rw [nI_eq (by omega) (by omega)]; exact hend), hsum2]
                simp only [Option.bind_some]
                rw [tm_gT t1, t2, ← htt]
                simp only [tm_nm, v1, Option.bind_some, hx0, hx1, pk_sub htl, nI_add]
            · intro j h1 h2
              rw [hFj j h1 h2, tm_sqr_2 hz hwh]
  exact loop m 0 m x y w h N d (by omega) (by omega) (by omega) hk hw hh (fun j _ _ => by rw [hF]) (fun j hj => by omega) (fun i _ c _ => rfl) (fun c _ => rfl)
theorem tmX8_square {N : Nat} (hN : 300 ≤ N) {d : tm_M} {g0 : Int64} {m x y w h : Nat} {kd S : Nat → Nat} (ho : tm_ok m kd (fun j => S (kd j))) (hk : tm_kidsM d m kd (fun j => S (kd j))) (hw : w ≤ 200) (hh : h ≤ 200) (hS : ∀ j, j < m → S (kd j) < 2 ^ 31) :
    ∃ d', fX8_laysSquares N d g0 (nI x) (nI y) (nI w) (nI h) = some d' ∧ (∀ c, c < 4 ∨ c = 10 ∨ c = 11 ∨ 13 ≤ c → d' c = d c) ∧ (∀ j, j < m → tm_at4 (d' 6) (d' 7) (d' 8) (d' 9) (kd (tm_is S kd m j)) (tm_sqr (fun j => S (kd (tm_is S kd m j))) m m 0 x y w h j)) ∧ (∀ i, (∀ j, j < m → kd j ≠ i) → ∀ c, 6 ≤ c → c < 10 → d' c i = d c i) := by
  obtain ⟨Q, q1, q2, q3⟩ := tmX8_sort (g0 := g0) hN ho hk hS
  obtain ⟨d', g1, g2, g3, g4⟩ := tmX8_sqL (g0 := g0) (x := x) (y := y) hN (tm_ok_is (Nat.le_refl m) ho) q2 hw hh
  refine ⟨d', ?_, ?_, g3, ?_⟩
  · simp only [fX8_laysSquares, q1, Option.bind_some]
    exact g1
  · intro c hc
    rw [g2 c (by omega), q3 c (by omega)]
  · intro i hi c h1 h2
    obtain ⟨i1, i2, i3, i4⟩ := tm_is_ok (S := S) (f := kd) (m := m) m (Nat.le_refl m)
    rw [g4 i (fun j hj => hi _ (i1 j hj)) c h1, q3 c (by omega)]
