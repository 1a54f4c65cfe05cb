/-! changeBy -/
variable {n W H pad md : Nat} {own par dep : Nat → Nat} {r : Nat → tm_R} {hb : Nat → Bool} {d e d' e' : tm_M}
def tm_df (a b : Nat) : Nat := (a - b) + (b - a)
theorem tm_dfX {a b : Nat} (ha : a ≤ 200) (hb : b ≤ 200) : (if (0 : Int32) ≤ nI a - nI b then nI a - nI b else 0 - (nI a - nI b)) = nI (tm_df a b) := by
  have h1 := pk_sub_toInt (show a < 2 ^ 30 by omega) (show b < 2 ^ 30 by omega)
  unfold tm_df
  by_cases c : b ≤ a
  · rw [pk_sub c, if_pos (nI_pos' (by omega)), show a - b + (b - a) = a - b by omega]
  · rw [if_neg (fun q => by
      rw [Int32.le_iff_toInt_le, h1, show (0 : Int32).toInt = 0 from rfl] at q
      omega)]
    rw [show a - b + (b - a) = b - a by omega, ← pk_sub (show a ≤ b by omega), Int32.zero_sub, Int32.neg_sub]
theorem tm_far (N : Nat) {a b : Nat} (ha : a ≤ 200) (hb : b ≤ 200) : fX8_far N (nI b - nI a) = some (nI (tm_df a b)) := by
  have h := tm_dfX hb ha
  simp only [fX8_far]
  have e : tm_df b a = tm_df a b := by unfold tm_df; omega
  rw [← e, ← h]
  by_cases c : (0 : Int32) ≤ nI b - nI a
  · rw [if_pos c, if_pos c]
  · rw [if_neg c, if_neg c, Int32.zero_sub]
def tm_dsum (r q : Nat → tm_R) : Nat → Nat
  | 0 => 0
  | k + 1 => tm_dsum r q k + (tm_df (r k).1 (q k).1 + tm_df (r k).2.1 (q k).2.1 + tm_df (r k).2.2.1 (q k).2.2.1 + tm_df (r k).2.2.2 (q k).2.2.2)
theorem tmX3_dif (N : Nat) {D E : tm_M} {i : Nat} {a b : tm_R} (hi : i < 24) (h : tm_at4 (D 1) (D 2) (D 3) (D 4) i a) (h' : tm_at4 (E 1) (E 2) (E 3) (E 4) i b) (ha : a.1 + a.2.2.1 ≤ 200 ∧ a.2.1 + a.2.2.2 ≤ 200) (hb : b.1 + b.2.2.1 ≤ 200 ∧ b.2.1 + b.2.2.2 ≤ 200) : fX3_difference N D E (nI i) = some (nI (tm_df a.1 b.1 + tm_df a.2.1 b.2.1 + tm_df a.2.2.1 b.2.2.1 + tm_df a.2.2.2 b.2.2.2)) := by
  obtain ⟨a1, a2, a3, a4⟩ := h
  obtain ⟨b1, b2, b3, b4⟩ := h'
  simp only [fX3_difference]
  rw [tm_gT (tm_inbN hi (by decide)), nI_clamp (show i < 2 ^ 31 by omega), a1, a2, a3, a4, b1, b2, b3, b4, tm_dfX (by omega) (by omega), tm_dfX (by omega) (by omega), tm_dfX (by omega) (by omega), tm_dfX (by omega) (by omega), nI_add, nI_add, nI_add]
theorem tm_4 (k : Nat) : (4 : Int32) * nI k = nI (4 * k) := pk_mul 4 k
theorem tmX8_bef {N : Nat} (hN : 300 ≤ N) (hn24 : n ≤ 24) (h1 : e 1 0 = nI n) : ∃ w, tm_whl (bX8_changeBy_31 N) N (nI 0, e) = some w ∧ ((∀ c, c ≠ 15 → w.2 c = e c) ∧ ∀ m, m < n → w.2 15 (4 * m) = e 6 m ∧ w.2 15 (4 * m + 1) = e 7 m ∧ w.2 15 (4 * m + 2) = e 8 m ∧ w.2 15 (4 * m + 3) = e 9 m) := by
  refine tm_fI (I := fun k st => st.1 = nI k ∧ (∀ c, c ≠ 15 → st.2 c = e c) ∧ ∀ m, m < k → st.2 15 (4 * m) = e 6 m ∧ st.2 15 (4 * m + 1) = e 7 m ∧ st.2 15 (4 * m + 2) = e 8 m ∧ st.2 15 (4 * m + 3) = e 9 m) 0 n (by omega) ?_ ?_ (by omega) ⟨rfl, fun c _ => rfl, fun m hm => by omega⟩
  · rintro k ⟨u, Q⟩ _ hk ⟨hu, q1, q2⟩
    simp only at hu q1 q2
    subst hu
    simp only [bX8_changeBy_31]
    rw [show (0 : Int32).toNatClampNeg = 0 from rfl, q1 1 (by decide), h1, if_neg (nI_ge hk (by omega))]
    simp only [tm_nm]
    rw [tm_4, nI_1, show nI (4 * k) + 2 = nI (4 * k + 2) from nI_add (4 * k) 2, show nI (4 * k) + 3 = nI (4 * k + 3) from nI_add (4 * k) 3, tm_gT (tm_inbN (show k < 24 by omega) (by decide)), tm_gT (tm_inbN (show 4 * k < 96 by omega) (by decide)), tm_gT (tm_inbN (show 4 * k + 1 < 96 by omega) (by decide)), tm_gT (tm_inbN (show 4 * k + 2 < 96 by omega) (by decide)), tm_gT (tm_inbN (show 4 * k + 3 < 96 by omega) (by decide)), nI_clamp (show k < 2 ^ 31 by omega), nI_clamp (show 4 * k < 2 ^ 31 by omega), nI_clamp (show 4 * k + 1 < 2 ^ 31 by omega), nI_clamp (show 4 * k + 2 < 2 ^ 31 by omega), nI_clamp (show 4 * k + 3 < 2 ^ 31 by omega), nI_1]
    simp only [tm_ucE, tm_ucN (show 7 ≠ 15 by decide), tm_ucN (show 8 ≠ 15 by decide), tm_ucN (show 9 ≠ 15 by decide)]
    refine ⟨_, rfl, rfl, fun c hc => ?_, fun m hm => ?_⟩
    · simp only
      rw [tm_ucN hc, tm_ucN hc, tm_ucN hc, tm_ucN hc]
      exact q1 c hc
    · simp only
      rw [tm_ucE]
      by_cases em : m = k
      · subst em
        refine ⟨?_, ?_, ?_, ?_⟩
        · rw [pk_un (by omega), pk_un (by omega), pk_un (by omega), pk_us, q1 6 (by decide)]
        · rw [pk_un (by omega), pk_un (by omega), pk_us, q1 7 (by decide)]
        · rw [pk_un (by omega), pk_us, q1 8 (by decide)]
        · rw [pk_us, q1 9 (by decide)]
      · obtain ⟨g1, g2, g3, g4⟩ := q2 m (by omega)
        refine ⟨?_, ?_, ?_, ?_⟩
        · rw [pk_un (by omega), pk_un (by omega), pk_un (by omega), pk_un (by omega)]; exact g1
        · rw [pk_un (by omega), pk_un (by omega), pk_un (by omega), pk_un (by omega)]; exact g2
        · rw [pk_un (by omega), pk_un (by omega), pk_un (by omega), pk_un (by omega)]; exact g3
        · rw [pk_un (by omega), pk_un (by omega), pk_un (by omega), pk_un (by omega)]; exact g4
  · rintro ⟨u, Q⟩ ⟨hu, q1, q2⟩
    simp only at hu q1 q2
    subst hu
    simp only [bX8_changeBy_31]
    rw [show (0 : Int32).toNatClampNeg = 0 from rfl, q1 1 (by decide), h1, if_pos (nI_le (Nat.le_refl _) (by omega))]
    exact ⟨_, rfl, q1, q2⟩
theorem tmX8_dif {N : Nat} (hN : 300 ≤ N) (hn24 : n ≤ 24) {q : Nat → tm_R} (h1 : e 1 0 = nI n) (hq : ∀ m, m < n → tm_at4 (e 6) (e 7) (e 8) (e 9) m (q m)) (hr : ∀ m, m < n → e 15 (4 * m) = nI (r m).1 ∧ e 15 (4 * m + 1) = nI (r m).2.1 ∧ e 15 (4 * m + 2) = nI (r m).2.2.1 ∧ e 15 (4 * m + 3) = nI (r m).2.2.2) (br : ∀ m, m < n → (r m).1 + (r m).2.2.1 ≤ 200 ∧ (r m).2.1 + (r m).2.2.2 ≤ 200) (bq : ∀ m, m < n → (q m).1 + (q m).2.2.1 ≤ 200 ∧ (q m).2.1 + (q m).2.2.2 ≤ 200) : tm_whl (bX8_changeBy_146 N e) N ((0 : Int32), (0 : Int32)) = some (nI (tm_dsum r q n), nI n) := by
  rw [show ((0 : Int32), (0 : Int32)) = (nI (tm_dsum r q 0), nI 0) from rfl]
  refine tm_forE (fun k => (nI (tm_dsum r q k), nI k)) 0 n (by omega) ?_ ?_ (by omega)
  · intro k _ hk
    obtain ⟨a1, a2, a3, a4⟩ := hq k hk
    obtain ⟨b1, b2, b3, b4⟩ := hr k hk
    obtain ⟨c1, c2⟩ := br k hk
    obtain ⟨c3, c4⟩ := bq k hk
    simp only [bX8_changeBy_146, tm_dsum]
    rw [show (0 : Int32).toNatClampNeg = 0 from rfl, h1, if_neg (nI_ge hk (by omega)), tm_4, nI_1, show nI (4 * k) + 2 = nI (4 * k + 2) from nI_add (4 * k) 2, show nI (4 * k) + 3 = nI (4 * k + 3) from nI_add (4 * k) 3, tm_gT (tm_inbN (show k < 24 by omega) (by decide)), tm_gT (tm_inbN (show 4 * k < 96 by omega) (by decide)), nI_clamp (show k < 2 ^ 31 by omega), nI_clamp (show 4 * k < 2 ^ 31 by omega), nI_clamp (show 4 * k + 1 < 2 ^ 31 by omega), nI_clamp (show 4 * k + 2 < 2 ^ 31 by omega), nI_clamp (show 4 * k + 3 < 2 ^ 31 by omega), a1, a2, a3, a4, b1, b2, b3, b4, tm_far N (by omega) (by omega), tm_far N (by omega) (by omega), tm_far N (by omega) (by omega), tm_far N (by omega) (by omega)]
    simp only [Option.bind_some, tm_nm]
    rw [tm_gT (tm_inbN (show 4 * k + 1 < 96 by omega) (by decide)), tm_gT (tm_inbN (show 4 * k + 2 < 96 by omega) (by decide)), tm_gT (tm_inbN (show 4 * k + 3 < 96 by omega) (by decide)), nI_add, nI_add, nI_add, nI_add, nI_1]
  · simp only [bX8_changeBy_146]
    rw [show (0 : Int32).toNatClampNeg = 0 from rfl, h1, if_pos (nI_le (Nat.le_refl _) (by omega))]
theorem tm_s21 {N : Nat} (hN : 300 ≤ N) : tm_S21 N tm_Inv := by
  intro d e g a b hI
  obtain ⟨n, own, par, dep, W, H, pad, md, r, hb, h⟩ := hI
  have hn24 := h.1.1.2.1
  obtain ⟨x1, x2, x3, x4, x5, x6, x7, x8⟩ := tm_J_x h
  obtain ⟨v1, v2, v3⟩ := h.1
  simp only [fX7_changeBy, fX8_changeBy]
  rcases tm_has N g h a with ⟨i, hi, ea, a1, a2⟩ | ⟨a1, a2⟩
  · rw [a1, a2]
    simp only [Option.bind_some]
    rw [if_neg tm_10, if_neg tm_10]
    rcases tm_siz N b with ⟨k, hk1, hk2, eb, b1, b2⟩ | ⟨b1, b2⟩
    · rw [b1, b2]
      simp only [Option.bind_some]
      rw [if_neg tm_10, if_neg tm_10]
      subst ea eb
      have hv' : tm_stv n (tm_nu own i k) par dep W H pad md := ⟨v1, fun j hj => by
          by_cases ej : j = i
          · rw [ej, tm_nuE]; omega
          · rw [tm_nuN ej]; exact v2 j hj, v3⟩
      -- the class
      obtain ⟨c, k0, k1, k2, k3⟩ := tmX5_copy N (tm_sh d 44) (tm_sh d 1)
      have hXc := tm_stX_k hn24 h.2.1 k1 k2 k3
      generalize hD9 : tm_upc (tm_ins d 44 3 c) 45 (upd (tm_ins d 44 3 c 45) i (nI k)) = d9
      have y0 : d9 44 = c 0 := by rw [← hD9, tm_ucN (by decide)]; exact tm_inE (o := 44) (x := 0) (by omega)
      have y1 : d9 45 = upd (c 1) i (nI k) := by rw [← hD9, tm_ucE, show tm_ins d 44 3 c 45 = c 1 from tm_inE (o := 44) (x := 1) (by omega)]
      have y2 : d9 46 = c 2 := by rw [← hD9, tm_ucN (by decide)]; exact tm_inE (o := 44) (x := 2) (by omega)
      have yl : ∀ c, c < 44 → d9 c = d c := fun c hc => by rw [← hD9, tm_ucN (by omega), tm_inN (by omega)]
      have hX9 : tm_stX (tm_sh d9 44) n (tm_nu own i k) par W H pad md := by
        obtain ⟨s1, s2, s3, s4, s5, s6, s7, s8⟩ := hXc
        refine ⟨by show d9 44 2 = _; rw [y0]; exact s1, by show d9 44 3 = _; rw [y0]; exact s2, by show d9 44 4 = _; rw [y0]; exact s3, by show d9 44 5 = _; rw [y0]; exact s4, by show d9 44 6 = _; rw [y0]; exact s5, fun j hj => ?_, fun j hj0 hj => by show d9 46 j = _; rw [y2]; exact s7 j hj0 hj, by show d9 46 0 = _; rw [y2]; exact s8⟩
        show d9 45 j = _
        rw [y1]
        by_cases ej : j = i
        · rw [ej, pk_us, tm_nuE]
        · rw [pk_un ej, tm_nuN ej]; exact s6 j hj
      obtain ⟨T, q, hq, t1, t2, t3⟩ := tmX1_arr (d := tm_sh d9 47) hN hv' hX9
      generalize hD11 : tm_ins d9 47 26 T = d11
      have zl : ∀ c, c < 44 → d11 c = d c := fun c hc => by rw [← hD11, tm_inN (by omega)]; exact yl c hc
      have zh : ∀ x, x < 26 → d11 (47 + x) = T x := fun x hx => by rw [← hD11]; exact tm_inE hx
      have hJ11 : tm_J d11 e n own par dep W H pad md r hb := tm_J_d h zl
      have hqin : ∀ m, m < n → (q m).1 + (q m).2.2.1 ≤ 200 ∧ (q m).2.1 + (q m).2.2.2 ≤ 200 := fun m hm => by
        have u := (tm_rec_in v1 t2 (fun i hi => tm_sz_pos v1 (fun i hi => (hv'.2.1 i hi).1) _ i hi (Nat.le_refl _)) (dep m) m hm rfl).1
        have u1 := u.1
        have u2 := u.2
        have := v3.1
        have := v3.2.1
        omega
      have lc : tm_whl (bX7_changeBy_60 N d11) N (nI (tm_dsum r q 0), nI 0) = some (nI (tm_dsum r q n), nI n) := by
        refine tm_forE (fun k => (nI (tm_dsum r q k), nI k)) 0 n (by omega) ?_ ?_ (by omega)
        · intro m _ hm
          obtain ⟨q1, q2, q3, q4, q5, q6, q7, q8⟩ := tm_J_l hJ11 hm
          have w1 := (t3 m hm).2.2.2.2
          have z5 := zh 5 (by omega)
          have z6 := zh 6 (by omega)
          have z7 := zh 7 (by omega)
          have z8 := zh 8 (by omega)
          simp only [bX7_changeBy_60, tm_dsum]
          rw [(tm_J_x hJ11).1, if_neg (nI_ge hm (by omega)), tmX3_dif N (D := tm_sh d11 8) (E := tm_sh d11 51) (a := r m) (b := q m) (show m < 24 by omega) ⟨q5, q6, q7, q8⟩ (by
            show tm_at4 (d11 52) (d11 53) (d11 54) (d11 55) m (q m)
            rw [show d11 52 = T 5 from z5, show d11 53 = T 6 from z6, show d11 54 = T 7 from z7, show d11 55 = T 8 from z8]
            exact w1) (tm_J_in h hm) (hqin m hm)]
          simp only [Option.bind_some, tm_nm, nI_add, nI_1]
        · simp only [bX7_changeBy_60]
          rw [(tm_J_x hJ11).1, if_pos (nI_le (Nat.le_refl _) (by omega))]
      -- the reference
      obtain ⟨e1, l1, h1, l2, l3, l4⟩ := tm_lay hN g h
      obtain ⟨m1, m2, m3, m4, m5, m6, m7, m8⟩ := tm_J_m h1
      obtain ⟨w, w1, w2, w3⟩ := tmX8_bef hN hn24 m1
      have wr : w.2 1 = e1 1 := w2 1 (by decide)
      generalize hE2 : tm_upc w.2 1 (upd (e1 1) (5 + i) (nI k)) = e2
      have f1 : e2 1 = upd (e1 1) (5 + i) (nI k) := by rw [← hE2, tm_ucE]
      have fc : ∀ c, c ≠ 1 → e2 c = w.2 c := fun c hc => by rw [← hE2, tm_ucN hc]
      have hs2 : tm_stM e2 n (tm_nu own i k) par W H pad md := by
        unfold tm_stM
        rw [f1]
        refine ⟨by rw [pk_un (by omega)]; exact m1, by rw [pk_un (by omega)]; exact m2, by rw [pk_un (by omega)]; exact m3, by rw [pk_un (by omega)]; exact m4, by rw [pk_un (by omega)]; exact m5, fun j hj => ?_, fun j hj0 hj => by rw [pk_un (by omega)]; exact m7 j hj0 hj, by rw [pk_un (by omega)]; exact m8⟩
        by_cases ej : j = i
        · rw [ej, pk_us, tm_nuE]
        · rw [pk_un (by omega), tm_nuN ej]; exact m6 j hj
      obtain ⟨e3, q', hq', o1, o2, o3, o4, o5⟩ := tmX8_ly (g0 := g) hN hv' hs2
      have hqq : ∀ m, m < n → q' m = q m := fun m hm => (tm_rec_uq v1 o2 t2 (dep m) m hm rfl).1
      generalize hE4 : tm_upc e3 1 (upd (e3 1) (5 + i) (e1 1 (5 + i))) = e4
      have g1 : e4 1 = e1 1 := by
        rw [← hE4, tm_ucE, o4 1 (by omega), f1]
        funext m
        by_cases em : m = 5 + i
        · rw [em, pk_us]
        · rw [pk_un em, pk_un em]
      have gc : ∀ c, c ≠ 1 → e4 c = e3 c := fun c hc => by rw [← hE4, tm_ucN hc]
      have hJ4 : tm_J d11 e4 n own par dep W H pad md r hb := by
        refine tm_J_e hJ11 (g1.trans (l3 1 (by omega))) ?_ ?_ ?_
        · rw [gc 2 (by omega), o4 2 (by omega), fc 2 (by omega), w2 2 (by omega), l3 2 (by omega)]
        · rw [gc 3 (by omega), o4 3 (by omega), fc 3 (by omega), w2 3 (by omega), l3 3 (by omega)]
        · rw [gc 0 (by omega), o5 2 (by omega), fc 0 (by omega), w2 0 (by omega), l4]
      have lm := tmX8_dif (e := e4) (r := r) (q := q) hN hn24 (by rw [g1]; exact m1) (fun m hm => by
        rw [gc 6 (by omega), gc 7 (by omega), gc 8 (by omega), gc 9 (by omega), ← hqq m hm]
        exact (o3 m hm).2.2) (fun m hm => by
        obtain ⟨p1, p2, p3, p4, p5, p6⟩ := tm_M_l l2 hm
        obtain ⟨s1, s2, s3, s4⟩ := w3 m hm
        rw [gc 15 (by omega), o4 15 (by omega), fc 15 (by omega), s1, s2, s3, s4]
        exact ⟨p3, p4, p5, p6⟩) (fun m hm => tm_J_in h hm) hqin
      rw [k0]
      simp only [Option.bind_some, tm_nm]
      rw [tm_gT (tm_inbN (show i < 24 by omega) (by decide)), nI_clamp (show i < 2 ^ 31 by omega), hD9, t1]
      simp only [Option.bind_some]
      rw [hD11, show ((0 : Int32), (0 : Int32)) = (nI (tm_dsum r q 0), nI 0) from rfl, lc, l1]
      simp only [Option.bind_some]
      rw [show ((0 : Int32), e1) = (nI 0, e1) from rfl, w1]
      simp only [Option.bind_some]
      rw [tm_5, tm_gT (tm_inbN (show 5 + i < 53 by omega) (by decide)), nI_clamp (show 5 + i < 2 ^ 31 by omega), wr, hE2, o1]
      simp only [Option.bind_some]
      rw [hE4, show (nI (tm_dsum r q 0), nI 0) = ((0 : Int32), (0 : Int32)) from rfl, lm]
      exact ⟨_, _, _, rfl, rfl, tm_J_I hJ4 g⟩
    · rw [b1, b2]
      simp only [Option.bind_some]
      rw [if_pos trivial, if_pos trivial]
      exact tm_fin2 N g h
  · rw [a1, a2]
    simp only [Option.bind_some]
    rw [if_pos trivial, if_pos trivial]
    exact tm_fin2 N g h
