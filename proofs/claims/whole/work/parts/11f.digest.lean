/-! digest -/
variable {n W H pad md : Nat} {own par dep : Nat → Nat} {r : Nat → tm_R} {hb : Nat → Bool} {d e d' e' : tm_M}
def tm_mx (h : Int64) (v : Int32) : Int64 := 31 * h + v.toInt64
theorem tm_mx7 (N : Nat) (h : Int64) (v : Int32) : fX7_mix N h v = some (tm_mx h v) := rfl
theorem tm_mx8 (N : Nat) (e : tm_M) (h : Int64) (v : Int32) : fX8_mix N e h v = some (tm_mx h v) := rfl
def tm_hk (n : Nat) (own par dep : Nat → Nat) (r : Nat → tm_R) (hb : Nat → Bool) (h0 : Int64) : Nat → Int64
  | 0 => h0
  | k + 1 => tm_mx (tm_mx (tm_mx (tm_mx (tm_mx (tm_mx (tm_mx (tm_mx (tm_hk n own par dep r hb h0 k) (nI (own k))) (nI (tm_sz n own par dep k))) (if k = 0 then -1 else nI (par k))) (nI (r k).1)) (nI (r k).2.1)) (nI (r k).2.2.1)) (nI (r k).2.2.2)) (if hb k = true then 1 else 0)
theorem tm_hd7 {N : Nat} (hN : 300 ≤ N) (h : tm_J d e n own par dep W H pad md r hb) (h0 : Int64) : tm_whl (bX7_digest_105 N d) N (h0, (0 : Int32)) = some (tm_hk n own par dep r hb h0 n, nI n) := by
  have hn24 := h.1.1.2.1
  obtain ⟨x1, x2, x3, x4, x5, x6, x7, x8⟩ := tm_J_x h
  rw [show (h0, (0 : Int32)) = (tm_hk n own par dep r hb h0 0, nI 0) from rfl]
  refine tm_forE (fun k => (tm_hk n own par dep r hb h0 k, nI k)) 0 n (by omega) ?_ ?_ (by omega)
  · intro k _ hk
    obtain ⟨q1, q2, q3, q4, q5, q6, q7, q8⟩ := tm_J_l h hk
    have hp : d 3 k = if k = 0 then -1 else nI (par k) := by
      by_cases c : k = 0
      · rw [if_pos c, c]; exact x8
      · rw [if_neg c]; exact x7 k c hk
    simp only [bX7_digest_105, fX7_mixNode, tm_hk]
    rw [x1, if_neg (nI_ge hk (by omega)), tmX7_hid N h hk, tm_gT (tm_inbN (show k < 24 by omega) (by decide)), nI_clamp (show k < 2 ^ 31 by omega), x6 k hk, q1, hp, q5, q6, q7, q8]
    simp only [tm_mx7, Option.bind_some, tm_nm, nI_1]
  · simp only [bX7_digest_105]
    rw [x1, if_pos (nI_le (Nat.le_refl _) (by omega))]
theorem tm_hd8 {N : Nat} (hN : 300 ≤ N) (h : tm_J d e n own par dep W H pad md r hb) (hl : tm_laidM e n own par dep r hb) (h0 : Int64) : tm_whl (bX8_digest_77 N e) N ((0 : Int32), h0) = some (nI n, tm_hk n own par dep r hb h0 n) := by
  have hn24 := h.1.1.2.1
  obtain ⟨m1, m2, m3, m4, m5, m6, m7, m8⟩ := tm_J_m h
  rw [show ((0 : Int32), h0) = (nI 0, tm_hk n own par dep r hb h0 0) from rfl]
  refine tm_forE (fun k => (nI k, tm_hk n own par dep r hb h0 k)) 0 n (by omega) ?_ ?_ (by omega)
  · intro k _ hk
    obtain ⟨q1, q2, q3, q4, q5, q6⟩ := tm_M_l hl hk
    have hp : e 1 (29 + k) = if k = 0 then -1 else nI (par k) := by
      by_cases c : k = 0
      · rw [if_pos c, c]; exact m8
      · rw [if_neg c]; exact m7 k c hk
    simp only [bX8_digest_77, tm_hk]
    rw [show (0 : Int32).toNatClampNeg = 0 from rfl, m1, if_neg (nI_ge hk (by omega)), tm_5, tm_29, tm_gT (tm_inbN (show 5 + k < 53 by omega) (by decide)), nI_clamp (show 5 + k < 2 ^ 31 by omega), nI_clamp (show 29 + k < 2 ^ 31 by omega), nI_clamp (show k < 2 ^ 31 by omega), m6 k hk, q1, hp, q3, q4, q5, q6, q2]
    simp only [tm_mx8, Option.bind_some, tm_nm, nI_1]
    rw [tm_gT (tm_inbN (show k < 24 by omega) (by decide)), tm_gT (tm_inbN (show 29 + k < 53 by omega) (by decide))]
    by_cases c : hb k = true
    · rw [if_pos c, if_neg tm_10]
    · rw [if_neg c, if_pos tm_00]
  · simp only [bX8_digest_77]
    rw [show (0 : Int32).toNatClampNeg = 0 from rfl, m1, if_pos (nI_le (Nat.le_refl _) (by omega))]
def tm_he (e : tm_M) (h0 : Int64) : Nat → Int64
  | 0 => h0
  | k + 1 => tm_mx (tm_he e h0 k) (e 3 k)
theorem tm_hd9 {N : Nat} (hN : 300 ≤ N) (h0 : Int64) : tm_whl (bX8_digest_9 N e) N ((0 : Int32), h0) = some (nI 3, tm_he e h0 3) := by
  rw [show ((0 : Int32), h0) = (nI 0, tm_he e h0 0) from rfl]
  refine tm_forE (fun k => (nI k, tm_he e h0 k)) 0 3 (by omega) ?_ ?_ (by omega)
  · intro k _ hk
    simp only [bX8_digest_9, tm_he]
    rw [if_neg (show ¬ (3 : Int32) ≤ nI k from nI_ge (b := 3) hk (by decide)), tm_gT (tm_inbN hk (by decide)), nI_clamp (show k < 2 ^ 31 by omega)]
    simp only [tm_mx8, Option.bind_some, tm_nm, nI_1]
  · simp only [bX8_digest_9]
    rw [if_pos (show (3 : Int32) ≤ nI 3 from nI_le (a := 3) (Nat.le_refl _) (by decide))]
def tm_hw (e : tm_M) (h0 : Int64) : Nat → Int64
  | 0 => h0
  | k + 1 => tm_mx (tm_hw e h0 k) (e 1 (k + 1))
theorem tm_hd40 {N : Nat} (hN : 300 ≤ N) (h0 : Int64) : tm_whl (bX8_digest_40 N e) N ((1 : Int32), h0) = some (nI 5, tm_hw e h0 4) := by
  rw [show ((1 : Int32), h0) = (nI 1, tm_hw e h0 (1 - 1)) from rfl]
  refine tm_forE (fun k => (nI k, tm_hw e h0 (k - 1))) 1 5 (by omega) ?_ ?_ (by omega)
  · intro k hk1 hk
    obtain ⟨j, rfl⟩ : ∃ j, k = j + 1 := ⟨k - 1, by omega⟩
    simp only [bX8_digest_40, Nat.add_sub_cancel, tm_hw]
    rw [if_neg (show ¬ (4 : Int32) < nI (j + 1) from nI_nlt (a := 4) (by omega) (by decide)), tm_gT (tm_inbN (show j + 1 < 53 by omega) (by decide)), nI_clamp (show j + 1 < 2 ^ 31 by omega)]
    simp only [tm_mx8, Option.bind_some, tm_nm, nI_1]
  · exact if_pos (show (4 : Int32) < nI 5 from nI_lt (a := 4) (by decide) (by decide))
theorem tm_s24 {N : Nat} (hN : 300 ≤ N) : tm_S24 N tm_Inv := by
  intro d e g hI
  obtain ⟨n, own, par, dep, W, H, pad, md, r, hb, h⟩ := hI
  obtain ⟨x1, x2, x3, x4, x5, x6, x7, x8⟩ := tm_J_x h
  obtain ⟨m1, m2, m3, m4, m5, m6, m7, m8⟩ := tm_J_m h
  obtain ⟨b1, b2, b3⟩ := h.2.2.2.2.2.1
  obtain ⟨nx, ct, a1, a2, a3, a4, a5, a6⟩ := h.2.2.2.2.2.2
  simp only [fX7_digest, fX8_digest, tm_mx7, tm_mx8, Option.bind_some, tm_nm]
  rw [tm_hd7 hN h, tm_hd9 hN]
  simp only [Option.bind_some]
  rw [tmX7_px hN h, tmX7_wst hN h, tmX7_avg hN h, tm_hd40 hN]
  simp only [Option.bind_some]
  obtain ⟨e', l1, h', l2, _⟩ := tm_lay hN (tm_mx (tm_hw e (tm_mx (tm_he e 11759 3) (e 0 2)) 4) (e 1 (0 : Int32).toNatClampNeg)) h
  rw [l1]
  simp only [Option.bind_some]
  rw [tm_hd8 hN h' l2]
  simp only [Option.bind_some]
  rw [tmX8_px hN _ h' l2]
  simp only [Option.bind_some]
  rw [tmX8_aw hN _ h' l2]
  simp only [Option.bind_some]
  rw [tmX8_aa hN _ h' l2]
  simp only [Option.bind_some]
  have hh : tm_mx (tm_hw e (tm_mx (tm_he e 11759 3) (e 0 2)) 4) (e 1 (0 : Int32).toNatClampNeg) = tm_mx (tm_mx (tm_mx (tm_mx (tm_mx (tm_mx (tm_mx (tm_mx (tm_mx 11759 (d 0 5)) (d 0 6)) (d 0 7)) (d 30 2)) (d 1 3)) (d 1 4)) (d 1 5)) (d 1 6)) (d 1 2) := by
    show tm_mx (tm_mx (tm_mx (tm_mx (tm_mx (tm_mx (tm_mx (tm_mx (tm_mx 11759 (e 3 0)) (e 3 1)) (e 3 2)) (e 0 2)) (e 1 1)) (e 1 2)) (e 1 3)) (e 1 4)) (e 1 0) = _
    rw [b1, b2, b3, a4, a5, x1, x2, x3, x4, x5, m1, m2, m3, m4, m5]
  rw [hh]
  exact ⟨_, _, _, rfl, rfl, tm_J_I h' _⟩
