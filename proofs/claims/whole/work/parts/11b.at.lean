/-! nodeAt, leafPixels -/
variable {n W H pad md : Nat} {own par dep : Nat → Nat} {r : Nat → tm_R} {hb : Nat → Bool} {d e d' e' : tm_M}
def tm_inr (q : tm_R) (x y : Nat) : Bool := decide (q.1 ≤ x ∧ x < q.1 + q.2.2.1 ∧ q.2.1 ≤ y ∧ y < q.2.1 + q.2.2.2)
theorem tm_inr_i {q : tm_R} {x y : Nat} : tm_inr q x y = true ↔ (q.1 ≤ x ∧ x < q.1 + q.2.2.1 ∧ q.2.1 ≤ y ∧ y < q.2.1 + q.2.2.2) := ⟨of_decide_eq_true, decide_eq_true⟩
def tm_bst (r : Nat → tm_R) (dep : Nat → Nat) (x y : Nat) : Nat → Nat
  | 0 => 0
  | k + 1 => if tm_inr (r k) x y = true ∧ dep (tm_bst r dep x y k) < dep k then k else tm_bst r dep x y k
theorem tm_bst_lt {x y : Nat} : ∀ k, tm_bst r dep x y k = 0 ∨ tm_bst r dep x y k < k := by
  intro k
  induction k with
  | zero => exact Or.inl rfl
  | succ k ih =>
    simp only [tm_bst]
    split
    · exact Or.inr (by omega)
    · rcases ih with h | h
      · exact Or.inl h
      · exact Or.inr (by omega)
theorem tm_lt1 {a x : Nat} (ha : a < 2 ^ 30) (hx : x < 2 ^ 30) : nI a - 1 < nI x ↔ a ≤ x := by
  rw [Int32.lt_iff_toInt_lt, show (1 : Int32) = nI 1 from rfl, pk_sub_toInt ha (by decide), nI_toInt (by omega)]
  omega
theorem tmX3_con (N : Nat) {D : tm_M} {i x y : Nat} {q : tm_R} (hi : i < 24) (hx : x < 2 ^ 20) (hy : y < 2 ^ 20) (h1 : D 1 i = nI q.1) (h2 : D 2 i = nI q.2.1) (h3 : D 3 i = nI q.2.2.1) (h4 : D 4 i = nI q.2.2.2) (hb1 : q.1 + q.2.2.1 ≤ 200) (hb2 : q.2.1 + q.2.2.2 ≤ 200) : fX3_contain N D (nI i) (nI x) (nI y) = some (if tm_inr q x y = true then 1 else 0) := by
  simp only [fX3_contain]
  rw [tm_gT (tm_inbN hi (by decide)), nI_clamp (show i < 2 ^ 31 by omega), h1, h2, h3, h4, nI_add, nI_add]
  have hi' := tm_inr_i (q := q) (x := x) (y := y)
  by_cases c1 : x < q.1
  · rw [if_pos (nI_lt c1 (by omega)), if_neg (fun w => by have := hi'.mp w; omega)]
  · rw [if_neg (show ¬ nI x < nI q.1 from nI_nlt (by omega) (by omega))]
    by_cases c2 : q.1 + q.2.2.1 ≤ x
    · rw [if_pos (nI_le c2 (by omega)), if_neg (fun w => by have := hi'.mp w; omega)]
    · rw [if_neg (show ¬ nI (q.1 + q.2.2.1) ≤ nI x from nI_ge (by omega) (by omega))]
      by_cases c3 : y < q.2.1
      · rw [if_pos (nI_lt c3 (by omega)), if_neg (fun w => by have := hi'.mp w; omega)]
      · rw [if_neg (show ¬ nI y < nI q.2.1 from nI_nlt (by omega) (by omega))]
        by_cases c4 : q.2.1 + q.2.2.2 ≤ y
        · rw [if_pos (nI_le c4 (by omega)), if_neg (fun w => by have := hi'.mp w; omega)]
        · rw [if_neg (show ¬ nI (q.2.1 + q.2.2.2) ≤ nI y from nI_ge (by omega) (by omega)), if_pos (hi'.mpr (by omega))]
theorem tmX8_win (N : Nat) {a w x : Nat} (ha : a + w ≤ 200) (hx : x < 2 ^ 20) : fX8_within N (nI x) (nI a) (nI a + nI w - 1) = some (if a ≤ x ∧ x < a + w then 1 else 0) := by
  simp only [fX8_within]
  rw [nI_add]
  by_cases c1 : x < a
  · rw [if_pos (nI_lt c1 (by omega)), if_neg (by omega)]
  · rw [if_neg (nI_nlt (by omega) (by omega))]
    by_cases c2 : a + w ≤ x
    · rw [if_pos ((tm_lt1 (by omega) (by omega)).mpr c2), if_neg (by omega)]
    · rw [if_neg (fun q => c2 ((tm_lt1 (by omega) (by omega)).mp q)), if_pos (by omega)]
theorem tm_rng (N : Nat) (a : Int32) (h1 : 1 ≤ W) (h2 : W ≤ 200) : (∃ j, j < W ∧ a = nI j ∧ fX8_within N a 0 (nI W - 1) = some 1) ∨ (a < 0 ∧ fX8_within N a 0 (nI W - 1) = some 0) ∨ (¬ a < 0 ∧ nI W ≤ a ∧ fX8_within N a 0 (nI W - 1) = some 0) := by
  simp only [fX8_within]
  rw [show nI W - 1 = nI (W - 1) from pk_sub (b := 1) h1]
  rcases pk_ix a (show W < 2 ^ 31 by omega) with hlt | hge | ⟨j, hj, ej⟩
  · exact Or.inr (Or.inl ⟨hlt, by rw [if_pos hlt]⟩)
  · have c0 := tm_n0 (by omega) hge
    exact Or.inr (Or.inr ⟨c0, hge, by rw [if_neg c0, if_pos ((tm_n1 (by omega) h1).mpr hge)]⟩)
  · subst ej
    exact Or.inl ⟨j, hj, rfl, by rw [if_neg (nI_pos (by omega)), if_neg (nI_nlt (by omega) (by omega))]⟩
theorem tm_s17 {N : Nat} (hN : 300 ≤ N) : tm_S17 N tm_Inv := by
  intro d e g a b hI
  obtain ⟨n, own, par, dep, W, H, pad, md, r, hb, h⟩ := hI
  have hn1 := h.1.1.1
  have hn24 := h.1.1.2.1
  obtain ⟨v1, v2, v3, v4, v5, v6⟩ := h.1
  obtain ⟨x1, x2, x3, x4, x5, x6, x7, x8⟩ := tm_J_x h
  obtain ⟨m1, m2, m3, m4, m5, m6, m7, m8⟩ := tm_J_m h
  simp only [fX7_nodeAt, fX8_nodeAt]
  rw [show (1 : Int32).toNatClampNeg = 1 from rfl, show (2 : Int32).toNatClampNeg = 2 from rfl, x2, x3, m2, m3]
  rcases tm_rng N a v3.1 v3.2 with ⟨i, hi, ea, a1⟩ | ⟨a0, a1⟩ | ⟨a0, a2, a1⟩
  · rw [a1]
    simp only [Option.bind_some]
    rw [if_neg tm_10]
    subst ea
    rw [if_neg (nI_pos (by omega)), if_neg (nI_ge hi (by omega))]
    rcases tm_rng N b v4.1 v4.2 with ⟨j, hj, eb, b1⟩ | ⟨b0, b1⟩ | ⟨b0, b2, b1⟩
    · rw [b1]
      simp only [Option.bind_some]
      rw [if_neg tm_10]
      subst eb
      rw [if_neg (nI_pos (by omega)), if_pos (nI_lt hj (by omega))]
      obtain ⟨e', l1, h', l2, l3, _⟩ := tm_lay hN g h
      obtain ⟨m1', m2', m3', m4', m5', m6', m7', m8'⟩ := tm_J_m h'
      have hbl : ∀ k, k ≤ n → tm_bst r dep i j k < n := fun k hk => by
        rcases tm_bst_lt (r := r) (dep := dep) (x := i) (y := j) k with q | q <;> omega
      have c1 : tm_whl (bX7_nodeAt_40 N d (nI i) (nI j)) N (nI (tm_bst r dep i j 0), nI 0) = some (nI (tm_bst r dep i j n), nI n) := by
        refine tm_forE (fun k => (nI (tm_bst r dep i j k), nI k)) 0 n (by omega) ?_ ?_ (by omega)
        · intro k _ hk
          obtain ⟨q1, q2, q3, q4, q5, q6, q7, q8⟩ := tm_J_l h hk
          obtain ⟨z1, z2⟩ := tm_J_in h hk
          have hB := hbl k (by omega)
          have hdk := tm_dep_lt v1 hk
          have hdB := tm_dep_lt v1 hB
          simp only [bX7_nodeAt_40, tm_bst]
          rw [x1, if_neg (nI_ge hk (by omega)), tmX3_con N (D := tm_sh d 8) (q := r k) (show k < 24 by omega) (by omega) (by omega) q5 q6 q7 q8 z1 z2]
          simp only [Option.bind_some]
          by_cases c : tm_inr (r k) i j = true
          · rw [if_pos c, if_neg tm_10, tm_gT (tm_inbN (show k < 24 by omega) (by decide)), tm_gT (tm_inbN (show tm_bst r dep i j k < 24 by omega) (by decide)), nI_clamp (show k < 2 ^ 31 by omega), nI_clamp (show tm_bst r dep i j k < 2 ^ 31 by omega), q2, (tm_J_l h hB).2.1]
            by_cases c2 : dep (tm_bst r dep i j k) < dep k
            · rw [if_pos (show tm_inr (r k) i j = true ∧ dep (tm_bst r dep i j k) < dep k from ⟨c, c2⟩), if_neg (nI_ge c2 (by omega))]
              simp only [tm_nm, nI_1]
            · rw [if_neg (show ¬ (tm_inr (r k) i j = true ∧ dep (tm_bst r dep i j k) < dep k) from fun q => c2 q.2), if_pos (nI_le (by omega) (by omega))]
              simp only [tm_nm, nI_1]
          · rw [if_neg c, if_pos tm_00, if_neg (fun q => c q.1)]
            simp only [tm_nm, nI_1]
        · simp only [bX7_nodeAt_40]
          rw [x1, if_pos (nI_le (Nat.le_refl _) (by omega))]
      have c2 : tm_whl (bX8_nodeAt_48 N e' g (nI i) (nI j)) N (nI (tm_bst r dep i j 1), nI 1) = some (nI (tm_bst r dep i j n), nI n) := by
        refine tm_forE (fun k => (nI (tm_bst r dep i j k), nI k)) 1 n hn1 ?_ ?_ (by omega)
        · intro k _ hk
          obtain ⟨q1, q2, q3, q4, q5, q6⟩ := tm_M_l l2 hk
          obtain ⟨z1, z2⟩ := tm_J_in h hk
          have hB := hbl k (by omega)
          have hdk := tm_dep_lt v1 hk
          have hdB := tm_dep_lt v1 hB
          simp only [bX8_nodeAt_48, tm_bst]
          rw [show (0 : Int32).toNatClampNeg = 0 from rfl, m1', if_neg (nI_ge hk (by omega)), tm_gT (tm_inbN (show k < 24 by omega) (by decide)), nI_clamp (show k < 2 ^ 31 by omega), q3, q4, q5, q6, tmX8_win N z1 (by omega), tmX8_win N z2 (by omega)]
          simp only [Option.bind_some]
          by_cases ca : (r k).1 ≤ i ∧ i < (r k).1 + (r k).2.2.1
          · rw [if_pos ca, if_neg tm_10]
            by_cases cb : (r k).2.1 ≤ j ∧ j < (r k).2.1 + (r k).2.2.2
            · have c : tm_inr (r k) i j = true := tm_inr_i.mpr ⟨ca.1, ca.2, cb.1, cb.2⟩
              rw [if_pos cb, if_neg tm_10, tmX8_dp hN v1 m7' hk, tmX8_dp hN v1 m7' hB]
              simp only [Option.bind_some]
              by_cases c2 : dep (tm_bst r dep i j k) < dep k
              · rw [if_pos (show tm_inr (r k) i j = true ∧ dep (tm_bst r dep i j k) < dep k from ⟨c, c2⟩), if_neg (nI_ge c2 (by omega))]
                simp only [tm_nm, nI_1]
              · rw [if_neg (show ¬ (tm_inr (r k) i j = true ∧ dep (tm_bst r dep i j k) < dep k) from fun q => c2 q.2), if_pos (nI_le (by omega) (by omega))]
                simp only [tm_nm, nI_1]
            · have c : ¬ tm_inr (r k) i j = true := fun q => by
                have := tm_inr_i.mp q
                exact cb ⟨this.2.2.1, this.2.2.2⟩
              rw [if_neg cb, if_pos tm_00, if_neg (fun q => c q.1)]
              simp only [tm_nm, nI_1]
          · have c : ¬ tm_inr (r k) i j = true := fun q => by
              have := tm_inr_i.mp q
              exact ca ⟨this.1, this.2.1⟩
            rw [if_neg ca, if_pos tm_00, if_neg (fun q => c q.1)]
            simp only [tm_nm, nI_1]
        · simp only [bX8_nodeAt_48]
          rw [show (0 : Int32).toNatClampNeg = 0 from rfl, m1', if_pos (nI_le (Nat.le_refl _) (by omega))]
      have hb1 : tm_bst r dep i j 1 = 0 := by
        show (if tm_inr (r 0) i j = true ∧ dep (tm_bst r dep i j 0) < dep 0 then 0 else tm_bst r dep i j 0) = 0
        split <;> rfl
      rw [hb1] at c2
      rw [show ((0 : Int32), (0 : Int32)) = (nI (tm_bst r dep i j 0), nI 0) from rfl, c1, l1]
      simp only [Option.bind_some]
      rw [show ((0 : Int32), (1 : Int32)) = (nI 0, nI 1) from rfl, c2]
      exact ⟨_, _, _, rfl, rfl, tm_J_I h' g⟩
    · rw [b1]
      simp only [Option.bind_some]
      rw [if_pos trivial, if_pos b0]
      exact tm_fin2 N g h
    · rw [b1]
      simp only [Option.bind_some]
      rw [if_pos trivial, if_neg b0, if_neg (fun q => absurd b2 (Int32.not_le.mpr q))]
      exact tm_fin2 N g h
  · rw [a1]
    simp only [Option.bind_some]
    rw [if_pos trivial, if_pos a0]
    exact tm_fin2 N g h
  · rw [a1]
    simp only [Option.bind_some]
    rw [if_pos trivial, if_neg a0, if_pos a2]
    exact tm_fin2 N g h
def tm_px (n : Nat) (par : Nat → Nat) (r : Nat → tm_R) : Nat → Nat
  | 0 => 0
  | k + 1 => if tm_cc par k n = 0 then tm_px n par r k + (r k).2.2.1 * (r k).2.2.2 else tm_px n par r k
theorem tmX7_px {N : Nat} (hN : 300 ≤ N) (h : tm_J d e n own par dep W H pad md r hb) : fX7_leafPixels N d = some (nI (tm_px n par r n)) := by
  have hn24 := h.1.1.2.1
  have x1 := (tm_J_x h).1
  have l1 : tm_whl (bX7_leafPixels_4 N d) N (nI (tm_px n par r 0), nI 0) = some (nI (tm_px n par r n), nI n) := by
    refine tm_forE (fun i => (nI (tm_px n par r i), nI i)) 0 n (by omega) ?_ ?_ (by omega)
    · intro i _ hi
      obtain ⟨q1, q2, q3, q4, q5, q6, q7, q8⟩ := tm_J_l h hi
      have q7' : tm_sh d 8 3 i = nI (r i).2.2.1 := q7
      have q8' : tm_sh d 8 4 i = nI (r i).2.2.2 := q8
      simp only [bX7_leafPixels_4, tm_px, fX3_area]
      rw [x1, if_neg (nI_ge hi (by omega)), tmX7_leaf N h hi]
      simp only [Option.bind_some]
      by_cases c : tm_cc par i n = 0
      · rw [if_pos c, if_pos c, if_neg tm_10, tm_gT (tm_inbN (show i < 24 by omega) (by decide)), nI_clamp (show i < 2 ^ 31 by omega), q7', q8', pk_mul]
        simp only [Option.bind_some, tm_nm, nI_1, nI_add]
      · rw [if_neg c, if_neg c, if_pos tm_00]
        simp only [tm_nm, nI_1]
    · simp only [bX7_leafPixels_4]
      rw [x1, if_pos (nI_le (Nat.le_refl _) (by omega))]
  simp only [fX7_leafPixels]
  rw [show ((0 : Int32), (0 : Int32)) = (nI (tm_px n par r 0), nI 0) from rfl, l1]
  rfl
theorem tmX8_px {N : Nat} (hN : 300 ≤ N) (g : Int64) (h : tm_J d e n own par dep W H pad md r hb) (hl : tm_laidM e n own par dep r hb) : fX8_pixels N e g = some (nI (tm_px n par r n)) := by
  have hn24 := h.1.1.2.1
  obtain ⟨m1, m2, m3, m4, m5, m6, m7, m8⟩ := tm_J_m h
  have l1 : tm_whl (bX8_pixels_4 N e g) N (nI (tm_px n par r 0), nI 0) = some (nI (tm_px n par r n), nI n) := by
    refine tm_forE (fun i => (nI (tm_px n par r i), nI i)) 0 n (by omega) ?_ ?_ (by omega)
    · intro i _ hi
      obtain ⟨q1, q2, q3, q4, q5, q6⟩ := tm_M_l hl hi
      have hc := tm_cc_le (par := par) (p := i) n
      simp only [bX8_pixels_4, tm_px]
      rw [show (0 : Int32).toNatClampNeg = 0 from rfl, m1, if_neg (nI_ge hi (by omega)), tmX8_cm hN h.1.1 m1 m7 m8 (show i < 2 ^ 31 by omega)]
      simp only [Option.bind_some]
      by_cases c : tm_cc par i n = 0
      · rw [if_pos c, c, if_pos nI_0, tm_gT (tm_inbN (show i < 24 by omega) (by decide)), nI_clamp (show i < 2 ^ 31 by omega), q5, q6, pk_mul]
        simp only [tm_nm, nI_1, nI_add]
      · rw [if_neg c, if_neg (nI_ne0 (by omega) (by omega))]
        simp only [tm_nm, nI_1, tm_x0]
    · simp only [bX8_pixels_4]
      rw [show (0 : Int32).toNatClampNeg = 0 from rfl, m1, if_pos (nI_le (Nat.le_refl _) (by omega))]
  simp only [fX8_pixels]
  rw [show ((0 : Int32), (0 : Int32)) = (nI (tm_px n par r 0), nI 0) from rfl, l1]
  rfl
theorem tm_s18 {N : Nat} (hN : 300 ≤ N) : tm_S18 N tm_Inv := by
  intro d e g hI
  obtain ⟨n, own, par, dep, W, H, pad, md, r, hb, h⟩ := hI
  obtain ⟨e', l1, h', l2, _⟩ := tm_lay hN g h
  refine ⟨nI (tm_px n par r n), e', tmX7_px hN h, ?_, tm_J_I h' g⟩
  simp only [fX8_leafPixels]
  rw [l1]
  simp only [Option.bind_some]
  rw [tmX8_px hN g h' l2]
  rfl
