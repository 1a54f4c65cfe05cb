/-! the calls that ask: numbers of one node, counts, places -/
variable {n W H pad md : Nat} {own par dep : Nat → Nat} {r : Nat → tm_R} {hb : Nat → Bool} {d e d' e' : tm_M}
theorem tm_lay {N : Nat} (hN : 300 ≤ N) (g : Int64) (h : tm_J d e n own par dep W H pad md r hb) : ∃ e', fX8_lays N e g = some e' ∧ tm_J d e' n own par dep W H pad md r hb ∧ tm_laidM e' n own par dep r hb ∧ (∀ c, c = 1 ∨ c = 2 ∨ c = 3 ∨ 15 ≤ c → e' c = e c) ∧ e' 0 2 = e 0 2 := by
  obtain ⟨e', r', hb', l1, l2, l3, l4, l5⟩ := tmX8_ly (g0 := g) hN h.1 (show tm_stM e n own par W H pad md from h.2.2.1)
  refine ⟨e', l1, tm_J_e h (l4 1 (by omega)) (l4 2 (by omega)) (l4 3 (by omega)) (l5 2 (by omega)), fun i hi => ?_, l4, l5 2 (by omega)⟩
  obtain ⟨u1, u2⟩ := tm_rec_uq h.1.1 l2 h.2.2.2.1 (dep i) i hi rfl
  rw [← u1, ← u2]
  exact l3 i hi
theorem tm_M_l (h : tm_laidM e n own par dep r hb) {i : Nat} (hi : i < n) : e 11 i = nI (tm_sz n own par dep i) ∧ e 10 i = (if hb i = true then 1 else 0) ∧ e 6 i = nI (r i).1 ∧ e 7 i = nI (r i).2.1 ∧ e 8 i = nI (r i).2.2.1 ∧ e 9 i = nI (r i).2.2.2 := h i hi
theorem tm_s7 {N : Nat} : tm_S7 N tm_Inv := by
  intro d e g hI
  obtain ⟨n, own, par, dep, W, H, pad, md, r, hb, h⟩ := hI
  refine ⟨nI n, ?_, ?_, tm_J_I h g⟩
  · simp only [fX7_nodeCount]
    rw [(tm_J_x h).1]
  · simp only [fX8_nodeCount]
    rw [show (0 : Int32).toNatClampNeg = 0 from rfl, (tm_J_m h).1]
theorem tm_s8 {N : Nat} (hN : 300 ≤ N) : tm_S8 N tm_Inv := by
  intro d e g a hI
  obtain ⟨n, own, par, dep, W, H, pad, md, r, hb, h⟩ := hI
  have hn24 := h.1.1.2.1
  obtain ⟨m1, m2, m3, m4, m5, m6, m7, m8⟩ := tm_J_m h
  simp only [fX7_size, fX8_size]
  rcases tm_has N g h a with ⟨i, hi, ea, a1, a2⟩ | ⟨a1, a2⟩
  · rw [a1, a2]
    simp only [Option.bind_some]
    rw [if_neg tm_10, if_neg tm_10]
    subst ea
    rw [tm_gT (tm_inbN (show i < 24 by omega) (by decide)), nI_clamp (show i < 2 ^ 31 by omega), (tm_J_l h hi).1, tmX8_sz (own := own) (dep := dep) hN h.1.1 m1 m6 m7 m8 (show i < 2 ^ 31 by omega)]
    exact ⟨_, _, _, rfl, rfl, tm_J_I h g⟩
  · rw [a1, a2]
    simp only [Option.bind_some]
    rw [if_pos trivial, if_pos trivial]
    exact tm_fin2 N g h
theorem tm_s9 {N : Nat} : tm_S9 N tm_Inv := by
  intro d e g a hI
  obtain ⟨n, own, par, dep, W, H, pad, md, r, hb, h⟩ := hI
  have hn24 := h.1.1.2.1
  obtain ⟨x1, x2, x3, x4, x5, x6, x7, x8⟩ := tm_J_x h
  obtain ⟨m1, m2, m3, m4, m5, m6, m7, m8⟩ := tm_J_m h
  simp only [fX7_parent, fX8_parent]
  rcases tm_has N g h a with ⟨i, hi, ea, a1, a2⟩ | ⟨a1, a2⟩
  · rw [a1, a2]
    simp only [Option.bind_some]
    rw [if_neg tm_10, if_neg tm_10]
    subst ea
    have hx : e 1 (29 + i) = d 3 i := by
      by_cases hi0 : i = 0
      · rw [hi0, x8]; exact m8
      · rw [x7 i hi0 hi]; exact m7 i hi0 hi
    rw [tm_gT (tm_inbN (show i < 24 by omega) (by decide)), nI_clamp (show i < 2 ^ 31 by omega), tm_29, tm_gT (tm_inbN (show 29 + i < 53 by omega) (by decide)), nI_clamp (show 29 + i < 2 ^ 31 by omega), hx]
    exact ⟨_, _, _, rfl, rfl, tm_J_I h g⟩
  · rw [a1, a2]
    simp only [Option.bind_some]
    rw [if_pos trivial, if_pos trivial]
    exact tm_fin2 N g h
theorem tm_s10 {N : Nat} (hN : 300 ≤ N) : tm_S10 N tm_Inv := by
  intro d e g a hI
  obtain ⟨n, own, par, dep, W, H, pad, md, r, hb, h⟩ := hI
  have hn24 := h.1.1.2.1
  obtain ⟨m1, m2, m3, m4, m5, m6, m7, m8⟩ := tm_J_m h
  simp only [fX7_depth, fX8_depth]
  rcases tm_has N g h a with ⟨i, hi, ea, a1, a2⟩ | ⟨a1, a2⟩
  · rw [a1, a2]
    simp only [Option.bind_some]
    rw [if_neg tm_10, if_neg tm_10]
    subst ea
    rw [tm_gT (tm_inbN (show i < 24 by omega) (by decide)), nI_clamp (show i < 2 ^ 31 by omega), (tm_J_l h hi).2.1, tmX8_dp hN h.1.1 m7 hi]
    exact ⟨_, _, _, rfl, rfl, tm_J_I h g⟩
  · rw [a1, a2]
    simp only [Option.bind_some]
    rw [if_pos trivial, if_pos trivial]
    exact tm_fin2 N g h
def tm_lc (n : Nat) (par : Nat → Nat) : Nat → Nat
  | 0 => 0
  | k + 1 => if tm_cc par k n = 0 then tm_lc n par k + 1 else tm_lc n par k
theorem tm_x0 (q : Nat) : nI q + 0 = nI q := by rw [← nI_0, nI_add, Nat.add_zero]
theorem tm_s11 {N : Nat} (hN : 300 ≤ N) : tm_S11 N tm_Inv := by
  intro d e g hI
  obtain ⟨n, own, par, dep, W, H, pad, md, r, hb, h⟩ := hI
  have hn24 := h.1.1.2.1
  obtain ⟨x1, x2, x3, x4, x5, x6, x7, x8⟩ := tm_J_x h
  obtain ⟨m1, m2, m3, m4, m5, m6, m7, m8⟩ := tm_J_m h
  have l1 : tm_whl (bX7_leafCount_4 N d) N (nI (tm_lc n par 0), nI 0) = some (nI (tm_lc n par n), nI n) := by
    refine tm_forE (fun i => (nI (tm_lc n par i), nI i)) 0 n (by omega) ?_ ?_ (by omega)
    · intro i _ hi
      simp only [bX7_leafCount_4, tm_lc]
      rw [x1, if_neg (nI_ge hi (by omega)), tmX7_leaf N h hi]
      simp only [Option.bind_some]
      by_cases c : tm_cc par i n = 0
      · rw [if_pos c, if_pos c, if_neg tm_10]
        simp only [tm_nm, nI_1]
      · rw [if_neg c, if_neg c, if_pos tm_00]
        simp only [tm_nm, nI_1]
    · simp only [bX7_leafCount_4]
      rw [x1, if_pos (nI_le (Nat.le_refl _) (by omega))]
  have l2 : tm_whl (bX8_leaves_4 N e g) N (nI (tm_lc n par 0), nI 0) = some (nI (tm_lc n par n), nI n) := by
    refine tm_forE (fun i => (nI (tm_lc n par i), nI i)) 0 n (by omega) ?_ ?_ (by omega)
    · intro i _ hi
      have hc := tm_cc_le (par := par) (p := i) n
      simp only [bX8_leaves_4, tm_lc]
      rw [show (0 : Int32).toNatClampNeg = 0 from rfl, m1, if_neg (nI_ge hi (by omega)), tmX8_cm hN h.1.1 m1 m7 m8 (show i < 2 ^ 31 by omega)]
      simp only [Option.bind_some]
      by_cases c : tm_cc par i n = 0
      · rw [if_pos c, c, if_pos nI_0]
        simp only [tm_nm, nI_1]
      · rw [if_neg c, if_neg (nI_ne0 (by omega) (by omega))]
        simp only [tm_nm, nI_1, tm_x0]
    · simp only [bX8_leaves_4]
      rw [show (0 : Int32).toNatClampNeg = 0 from rfl, m1, if_pos (nI_le (Nat.le_refl _) (by omega))]
  refine ⟨nI (tm_lc n par n), ?_, ?_, tm_J_I h g⟩
  · simp only [fX7_leafCount]
    rw [show ((0 : Int32), (0 : Int32)) = (nI (tm_lc n par 0), nI 0) from rfl, l1]
    rfl
  · simp only [fX8_leafCount, fX8_leaves]
    rw [show ((0 : Int32), (0 : Int32)) = (nI (tm_lc n par 0), nI 0) from rfl, l2]
    rfl
theorem tm_s12 {N : Nat} (hN : 300 ≤ N) : tm_S12 N tm_Inv := by
  intro d e g a hI
  obtain ⟨n, own, par, dep, W, H, pad, md, r, hb, h⟩ := hI
  have hn24 := h.1.1.2.1
  obtain ⟨e', l1, h', l2, _⟩ := tm_lay hN g h
  simp only [fX7_x, fX8_x]
  rw [l1]
  simp only [Option.bind_some]
  rcases tm_has N g h' a with ⟨i, hi, ea, a1, a2⟩ | ⟨a1, a2⟩
  · rw [a1, a2]
    simp only [Option.bind_some]
    rw [if_neg tm_10, if_neg tm_10]
    subst ea
    rw [tm_gT (tm_inbN (show i < 24 by omega) (by decide)), tm_gT (tm_inbN (show i < 24 by omega) (by decide)), nI_clamp (show i < 2 ^ 31 by omega), (tm_J_l h hi).2.2.2.2.1, (tm_M_l l2 hi).2.2.1]
    exact ⟨_, _, _, rfl, rfl, tm_J_I h' g⟩
  · rw [a1, a2]
    simp only [Option.bind_some]
    rw [if_pos trivial, if_pos trivial]
    exact tm_fin2 N g h'
theorem tm_s13 {N : Nat} (hN : 300 ≤ N) : tm_S13 N tm_Inv := by
  intro d e g a hI
  obtain ⟨n, own, par, dep, W, H, pad, md, r, hb, h⟩ := hI
  have hn24 := h.1.1.2.1
  obtain ⟨e', l1, h', l2, _⟩ := tm_lay hN g h
  simp only [fX7_y, fX8_y]
  rw [l1]
  simp only [Option.bind_some]
  rcases tm_has N g h' a with ⟨i, hi, ea, a1, a2⟩ | ⟨a1, a2⟩
  · rw [a1, a2]
    simp only [Option.bind_some]
    rw [if_neg tm_10, if_neg tm_10]
    subst ea
    rw [tm_gT (tm_inbN (show i < 24 by omega) (by decide)), tm_gT (tm_inbN (show i < 24 by omega) (by decide)), nI_clamp (show i < 2 ^ 31 by omega), (tm_J_l h hi).2.2.2.2.2.1, (tm_M_l l2 hi).2.2.2.1]
    exact ⟨_, _, _, rfl, rfl, tm_J_I h' g⟩
  · rw [a1, a2]
    simp only [Option.bind_some]
    rw [if_pos trivial, if_pos trivial]
    exact tm_fin2 N g h'
theorem tm_s14 {N : Nat} (hN : 300 ≤ N) : tm_S14 N tm_Inv := by
  intro d e g a hI
  obtain ⟨n, own, par, dep, W, H, pad, md, r, hb, h⟩ := hI
  have hn24 := h.1.1.2.1
  obtain ⟨e', l1, h', l2, _⟩ := tm_lay hN g h
  simp only [fX7_width, fX8_width]
  rw [l1]
  simp only [Option.bind_some]
  rcases tm_has N g h' a with ⟨i, hi, ea, a1, a2⟩ | ⟨a1, a2⟩
  · rw [a1, a2]
    simp only [Option.bind_some]
    rw [if_neg tm_10, if_neg tm_10]
    subst ea
    rw [tm_gT (tm_inbN (show i < 24 by omega) (by decide)), tm_gT (tm_inbN (show i < 24 by omega) (by decide)), nI_clamp (show i < 2 ^ 31 by omega), (tm_J_l h hi).2.2.2.2.2.2.1, (tm_M_l l2 hi).2.2.2.2.1]
    exact ⟨_, _, _, rfl, rfl, tm_J_I h' g⟩
  · rw [a1, a2]
    simp only [Option.bind_some]
    rw [if_pos trivial, if_pos trivial]
    exact tm_fin2 N g h'
theorem tm_s15 {N : Nat} (hN : 300 ≤ N) : tm_S15 N tm_Inv := by
  intro d e g a hI
  obtain ⟨n, own, par, dep, W, H, pad, md, r, hb, h⟩ := hI
  have hn24 := h.1.1.2.1
  obtain ⟨e', l1, h', l2, _⟩ := tm_lay hN g h
  simp only [fX7_height, fX8_height]
  rw [l1]
  simp only [Option.bind_some]
  rcases tm_has N g h' a with ⟨i, hi, ea, a1, a2⟩ | ⟨a1, a2⟩
  · rw [a1, a2]
    simp only [Option.bind_some]
    rw [if_neg tm_10, if_neg tm_10]
    subst ea
    rw [tm_gT (tm_inbN (show i < 24 by omega) (by decide)), tm_gT (tm_inbN (show i < 24 by omega) (by decide)), nI_clamp (show i < 2 ^ 31 by omega), (tm_J_l h hi).2.2.2.2.2.2.2, (tm_M_l l2 hi).2.2.2.2.2]
    exact ⟨_, _, _, rfl, rfl, tm_J_I h' g⟩
  · rw [a1, a2]
    simp only [Option.bind_some]
    rw [if_pos trivial, if_pos trivial]
    exact tm_fin2 N g h'
theorem tmX7_hid (N : Nat) (h : tm_J d e n own par dep W H pad md r hb) {i : Nat} (hi : i < n) : fX7_hiddenFlag N d (nI i) = some (if hb i = true then 1 else 0) := by
  have hn24 := h.1.1.2.1
  simp only [fX7_hiddenFlag]
  rw [tm_gT (tm_inbN (show i < 24 by omega) (by decide)), nI_clamp (show i < 2 ^ 31 by omega), (tm_J_l h hi).2.2.2.1]
  by_cases c : hb i = true
  · rw [if_pos c, if_neg tm_10]
  · rw [if_neg c, if_pos tm_00]
theorem tm_s16 {N : Nat} (hN : 300 ≤ N) : tm_S16 N tm_Inv := by
  intro d e g a hI
  obtain ⟨n, own, par, dep, W, H, pad, md, r, hb, h⟩ := hI
  have hn24 := h.1.1.2.1
  obtain ⟨e', l1, h', l2, _⟩ := tm_lay hN g h
  simp only [fX7_isHidden, fX8_isHidden]
  rw [l1]
  simp only [Option.bind_some]
  rcases tm_has N g h' a with ⟨i, hi, ea, a1, a2⟩ | ⟨a1, a2⟩
  · rw [a1, a2]
    simp only [Option.bind_some]
    rw [if_neg tm_10, if_neg tm_10]
    subst ea
    rw [tmX7_hid N h hi, tm_gT (tm_inbN (show i < 24 by omega) (by decide)), nI_clamp (show i < 2 ^ 31 by omega), (tm_M_l l2 hi).2.1]
    by_cases c : hb i = true
    · rw [if_pos c, if_neg tm_10]
      exact ⟨_, _, _, rfl, rfl, tm_J_I h' g⟩
    · rw [if_neg c, if_pos tm_00]
      exact ⟨_, _, _, rfl, rfl, tm_J_I h' g⟩
  · rw [a1, a2]
    simp only [Option.bind_some]
    rw [if_pos trivial, if_pos trivial]
    exact tm_fin2 N g h'
theorem tm_s23 {N : Nat} : tm_S23 N tm_Inv := by
  intro d e g a hI
  obtain ⟨n, own, par, dep, W, H, pad, md, r, hb, h⟩ := hI
  obtain ⟨b1, b2, b3⟩ := h.2.2.2.2.2.1
  simp only [fX7_errorCount, fX8_errorCount]
  by_cases h0 : a = 0
  · rw [if_pos h0, h0, tm_w0]
    simp only [Option.bind_some]
    rw [if_neg tm_10, show tm_inb (0 : Int32) 3 = true from by decide +kernel, tm_gT rfl, show (0 : Int32).toNatClampNeg = 0 from rfl, b1]
    exact ⟨_, _, _, rfl, rfl, tm_J_I h g⟩
  · by_cases h1 : a = 1
    · rw [if_neg h0, if_pos h1, h1, tm_w1]
      simp only [Option.bind_some]
      rw [if_neg tm_10, show tm_inb (1 : Int32) 3 = true from by decide +kernel, tm_gT rfl, show (1 : Int32).toNatClampNeg = 1 from rfl, b2]
      exact ⟨_, _, _, rfl, rfl, tm_J_I h g⟩
    · by_cases h2 : a = 2
      · rw [if_neg h0, if_neg h1, if_pos h2, h2, tm_w2]
        simp only [Option.bind_some]
        rw [if_neg tm_10, show tm_inb (2 : Int32) 3 = true from by decide +kernel, tm_gT rfl, show (2 : Int32).toNatClampNeg = 2 from rfl, b3]
        exact ⟨_, _, _, rfl, rfl, tm_J_I h g⟩
      · have hw : fX8_within N a 0 2 = some 0 := by
          rcases tm_win N a 0 2 (by decide) (by decide) with ⟨k, k1, k2, k3, k4⟩ | hw
          · rcases (show k = 0 ∨ k = 1 ∨ k = 2 by omega) with rfl | rfl | rfl
            · exact absurd k3 h0
            · exact absurd k3 h1
            · exact absurd k3 h2
          · exact hw
        rw [if_neg h0, if_neg h1, if_neg h2, hw]
        simp only [Option.bind_some]
        rw [if_pos trivial]
        exact tm_fin2 N g h
