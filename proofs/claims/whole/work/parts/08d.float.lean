/-! positive floats of known size: a * 2^23 ≤ bits < b * 2^23 says 2^(a-127) ≤ x < 2^(b-127) -/
theorem tm_fpos {z : UInt32} {A B : Nat} {e : Int} (h : FP.Core.decode FP.Core.b32 z.toNat = FP.Core.roundRatio FP.Core.b32 false A B e) : z.toNat < 2 ^ 31 := by
  have h1 : FP.Core.val32 z ≠ .nan := by
    show FP.Core.decode _ _ ≠ _
    rw [h]; exact FP.Core.roundRatio_ne_nan _ _ _ _ _
  have h2 := FP.Core.sgn_bits32 h1
  have h3 : FP.Core.sgn (FP.Core.val32 z) = false := by
    show FP.Core.sgn (FP.Core.decode _ _) = _
    rw [h]; exact FP.Core.sgn_roundRatio _ _ _ _ _
  rw [h3] at h2
  have := of_decide_eq_false h2.symm
  omega
theorem tm_fmag {x : UInt32} (h : x.toNat < 2 ^ 31) : FP.Core.mag FP.Core.b32 x.toNat = x.toNat := by
  rw [FP.Core.mag_toNat32]; exact Nat.mod_eq_of_lt h
theorem tm_fdat {x : UInt32} {b : Nat} (h : x.toNat < b * 2 ^ 23) (hb : b ≤ 255) : ∃ c q, FP.Core.decode FP.Core.b32 x.toNat = .fin false c q ∧ FP.Core.fits FP.Core.b32 (.fin false c q) ∧ FP.Core.zmag FP.Core.b32 (.fin false c q) = FP.Core.unitsOf FP.Core.b32 x.toNat := by
  have h31 : x.toNat < 2 ^ 31 := by omega
  have hm := tm_fmag h31
  obtain ⟨s, c, q, x1, x2, x3⟩ := FP.Core.fin_of_mag FP.Core.good_b32 (n := x.toNat) (by rw [hm, FP.Core.infBits_b32]; omega)
  have h1 : FP.Core.val32 x ≠ .nan := by
    show FP.Core.decode _ _ ≠ _
    rw [x1]; exact FP.Core.Datum.noConfusion
  have h2 := FP.Core.sgn_bits32 h1
  have h3 : FP.Core.sgn (FP.Core.val32 x) = s := by
    show FP.Core.sgn (FP.Core.decode _ _) = _
    rw [x1]; rfl
  have h4 : s = false := by
    rw [← h3, h2]
    exact decide_eq_false (by omega)
  subst h4
  rw [hm] at x3
  exact ⟨c, q, x1, x2, x3⟩
theorem tmf_mul {x y : UInt32} {a b c d : Nat} (hx : a * 2 ^ 23 ≤ x.toNat) (hx2 : x.toNat < b * 2 ^ 23) (hy : c * 2 ^ 23 ≤ y.toNat) (hy2 : y.toNat < d * 2 ^ 23) (hb : b ≤ 255) (hd : d ≤ 255) (ha : 1 ≤ a) (hc : 1 ≤ c) (K M : Nat) (hK0 : 1 ≤ K) (hK : K + 127 ≤ a + c) (hM : b + d ≤ M + 126) (hM2 : M ≤ 255) (hab : a ≤ b) (hcd : c ≤ d) :
    K * 2 ^ 23 ≤ (FP.fmul x y).toNat ∧ (FP.fmul x y).toNat < M * 2 ^ 23 := by
  obtain ⟨c1, q, x1, x2, x3⟩ := tm_fdat hx2 hb
  obtain ⟨d1, r, y1, y2, y3⟩ := tm_fdat hy2 hd
  obtain ⟨p1, p2, p3⟩ := FP.Core.product_units x2 y2
  have hdec : FP.Core.decode FP.Core.b32 (FP.fmul x y).toNat = FP.Core.roundRatio FP.Core.b32 false (c1 * d1) 1 (q + r) := by
    have h := FP.Core.val32_fmul x y
    simp only [FP.Core.val32] at h
    rw [x1, y1, p1] at h
    exact h
  have hpos := tm_fpos hdec
  constructor
  · have h := FP.Core.mag_ge FP.Core.good_b32 (m := K * FP.Core.b32.tails) hdec (by decide) (e0 := 2 * FP.Core.b32.qmin) (by decide) p2 (by rw [FP.Core.infBits_b32, FP.Core.tails_b32]; exact Nat.le_trans (Nat.mul_le_mul_right _ (show K ≤ 255 by omega)) (by decide)) ?_
    · rw [tm_fmag hpos, FP.Core.tails_b32] at h
      exact h
    · rw [p3, x3, y3, FP.Core.unitsOf_start (by omega), Nat.mul_one]
      have u1 : FP.Core.b32.tails * 2 ^ (a - 1) ≤ FP.Core.unitsOf FP.Core.b32 x.toNat := by
        rw [← FP.Core.unitsOf_start ha]
        exact FP.Core.unitsOf_le_iff.mpr (by rw [FP.Core.tails_b32]; exact hx)
      have u2 : FP.Core.b32.tails * 2 ^ (c - 1) ≤ FP.Core.unitsOf FP.Core.b32 y.toNat := by
        rw [← FP.Core.unitsOf_start hc]
        exact FP.Core.unitsOf_le_iff.mpr (by rw [FP.Core.tails_b32]; exact hy)
      refine Nat.le_trans ?_ (Nat.mul_le_mul u1 u2)
      rw [FP.Core.tails_b32, FP.Core.qmin_b32, show ((-149 : Int) - 2 * -149).toNat = 149 from rfl]
      rw [Nat.mul_assoc, ← Nat.pow_add, ← Nat.pow_add, ← Nat.pow_add, ← Nat.pow_add, ← Nat.pow_add]
      exact Nat.pow_le_pow_right (by decide) (by omega)
  · have h := FP.Core.fmul_mag (a := x) (b := y) (Ka := b) (Kb := d) (by rw [Nat.mod_eq_of_lt (by omega)]; exact hx2) (by rw [Nat.mod_eq_of_lt (by omega)]; exact hy2) hb hd
    have e : (FP.Core.fmul x y).toNat % 2 ^ 31 = (FP.fmul x y).toNat := Nat.mod_eq_of_lt hpos
    rw [e] at h
    exact Nat.lt_of_lt_of_le h (Nat.mul_le_mul_right _ (by omega))
theorem tmf_div {x y : UInt32} {a b c d : Nat} (hx : a * 2 ^ 23 ≤ x.toNat) (hx2 : x.toNat < b * 2 ^ 23) (hy : c * 2 ^ 23 ≤ y.toNat) (hy2 : y.toNat < d * 2 ^ 23) (hb : b ≤ 255) (hd : d ≤ 255) (ha : 1 ≤ a) (hc : 1 ≤ c) (K M : Nat) (hK0 : 1 ≤ K) (hK : K + d ≤ a + 127) (hM : b + 128 ≤ M + c) (hM2 : M ≤ 255) (hab : a ≤ b) (hcd : c ≤ d) :
    K * 2 ^ 23 ≤ (FP.fdiv x y).toNat ∧ (FP.fdiv x y).toNat < M * 2 ^ 23 := by
  obtain ⟨c1, q, x1, x2, x3⟩ := tm_fdat hx2 hb
  obtain ⟨d1, r, y1, y2, y3⟩ := tm_fdat hy2 hd
  have u1 : FP.Core.b32.tails * 2 ^ (a - 1) ≤ FP.Core.unitsOf FP.Core.b32 x.toNat := by
    rw [← FP.Core.unitsOf_start ha]
    exact FP.Core.unitsOf_le_iff.mpr (by rw [FP.Core.tails_b32]; exact hx)
  have u2 : FP.Core.b32.tails * 2 ^ (c - 1) ≤ FP.Core.unitsOf FP.Core.b32 y.toNat := by
    rw [← FP.Core.unitsOf_start hc]
    exact FP.Core.unitsOf_le_iff.mpr (by rw [FP.Core.tails_b32]; exact hy)
  have u3 : FP.Core.unitsOf FP.Core.b32 y.toNat < FP.Core.b32.tails * 2 ^ (d - 1) := (FP.Core.units_lt_start (by rw [FP.Core.tails_b32]; exact hy2)).2
  have hd0 : d1 ≠ 0 := by
    rintro rfl
    have h1 : FP.Core.zmag FP.Core.b32 (.fin false 0 r) = 0 := Nat.zero_mul _
    have := Nat.mul_pos (FP.Core.tails_pos FP.Core.b32) (Nat.two_pow_pos (c - 1))
    omega
  have hdec : FP.Core.decode FP.Core.b32 (FP.fdiv x y).toNat = FP.Core.roundRatio FP.Core.b32 false c1 d1 (q - r) := by
    have h := FP.Core.val32_fdiv x y
    simp only [FP.Core.val32] at h
    rw [x1, y1] at h
    simp only [FP.Core.quotient, if_neg hd0] at h
    exact h
  have hpos := tm_fpos hdec
  have hq1 := x2.2.1
  have hr1 := y2.2.1
  have hqm := FP.Core.qmin_b32
  constructor
  · have h := FP.Core.mag_ge FP.Core.good_b32 (m := K * FP.Core.b32.tails) hdec (by omega) (e0 := 2 * FP.Core.b32.qmin - r) (by omega) (by omega) (by rw [FP.Core.infBits_b32, FP.Core.tails_b32]; exact Nat.le_trans (Nat.mul_le_mul_right _ (show K ≤ 255 by omega)) (by decide)) ?_
    · rw [tm_fmag hpos, FP.Core.tails_b32] at h
      exact h
    · rw [FP.Core.unitsOf_start (by omega)]
      have e1 : FP.Core.inUnits c1 (q - r) (2 * FP.Core.b32.qmin - r) = FP.Core.zmag FP.Core.b32 (.fin false c1 q) * 2 ^ 149 := by
        show c1 * _ = c1 * _ * _
        rw [Nat.mul_assoc, ← Nat.pow_add]
        congr 2
        omega
      have e2 : 2 ^ (FP.Core.b32.qmin - (2 * FP.Core.b32.qmin - r)).toNat * d1 = FP.Core.zmag FP.Core.b32 (.fin false d1 r) := by
        show _ = d1 * _
        rw [Nat.mul_comm]
        congr 2
        omega
      rw [e1, Nat.mul_assoc, e2, x3, y3]
      refine Nat.le_trans (Nat.mul_le_mul_left _ (Nat.le_of_lt u3)) (Nat.le_trans ?_ (Nat.mul_le_mul_right _ u1))
      rw [FP.Core.tails_b32]
      rw [← Nat.pow_add, ← Nat.pow_add, ← Nat.pow_add, ← Nat.pow_add, ← Nat.pow_add]
      exact Nat.pow_le_pow_right (by decide) (by omega)
  · have h := FP.Core.fdiv_mag (a := x) (b := y) (K := b) (L := c) (by rw [Nat.mod_eq_of_lt (by omega)]; exact hx2) (by rw [Nat.mod_eq_of_lt (by omega)]; exact hy) (by rw [Nat.mod_eq_of_lt (by omega)]; exact Nat.lt_of_lt_of_le hy2 (Nat.mul_le_mul_right _ hd)) hb hc
    have e : (FP.Core.fdiv x y).toNat % 2 ^ 31 = (FP.fdiv x y).toNat := Nat.mod_eq_of_lt hpos
    rw [e] at h
    exact Nat.lt_of_lt_of_le h (Nat.mul_le_mul_right _ (by omega))
theorem tmf_add {x y : UInt32} {a b : Nat} (hx : a * 2 ^ 23 ≤ x.toNat) (hx2 : x.toNat < b * 2 ^ 23) (hy2 : y.toNat < b * 2 ^ 23) (hb : b ≤ 255) (ha : 1 ≤ a) :
    a * 2 ^ 23 ≤ (FP.fadd x y).toNat ∧ (FP.fadd x y).toNat < (b + 2) * 2 ^ 23 := by
  obtain ⟨c1, q, x1, x2, x3⟩ := tm_fdat hx2 (by omega)
  obtain ⟨d1, r, y1, y2, y3⟩ := tm_fdat hy2 (by omega)
  obtain ⟨sg, v, e, p1, p2, p3⟩ := FP.Core.sum_units x2 y2
  have u1 : FP.Core.b32.tails * 2 ^ (a - 1) ≤ FP.Core.unitsOf FP.Core.b32 x.toNat := by
    rw [← FP.Core.unitsOf_start ha]
    exact FP.Core.unitsOf_le_iff.mpr (by rw [FP.Core.tails_b32]; exact hx)
  have hz : FP.Core.signed sg (FP.Core.inUnits v e FP.Core.b32.qmin) = ((FP.Core.unitsOf FP.Core.b32 x.toNat + FP.Core.unitsOf FP.Core.b32 y.toNat : Nat) : Int) := by
    rw [p3, ← x3, ← y3]
    simp [FP.Core.zval, FP.Core.sgn, FP.Core.signed]
  have hU : 0 < FP.Core.unitsOf FP.Core.b32 x.toNat := Nat.lt_of_lt_of_le (Nat.mul_pos (FP.Core.tails_pos FP.Core.b32) (Nat.two_pow_pos (a - 1))) u1
  have hsg : sg = false := by
    cases sg with
    | false => rfl
    | true =>
      simp only [FP.Core.signed, if_true] at hz
      omega
  subst hsg
  have hv : FP.Core.inUnits v e FP.Core.b32.qmin = FP.Core.unitsOf FP.Core.b32 x.toNat + FP.Core.unitsOf FP.Core.b32 y.toNat := by
    simp only [FP.Core.signed, Bool.false_eq_true, if_false] at hz
    omega
  have hdec : FP.Core.decode FP.Core.b32 (FP.fadd x y).toNat = FP.Core.roundRatio FP.Core.b32 false v 1 e := by
    have h := FP.Core.val32_fadd x y
    simp only [FP.Core.val32] at h
    rw [x1, y1, p1] at h
    exact h
  have hpos := tm_fpos hdec
  constructor
  · have h := FP.Core.mag_ge FP.Core.good_b32 (m := a * FP.Core.b32.tails) hdec (by decide) (e0 := FP.Core.b32.qmin) (by omega) p2 (by rw [FP.Core.infBits_b32, FP.Core.tails_b32]; omega) ?_
    · rw [tm_fmag hpos, FP.Core.tails_b32] at h
      exact h
    · rw [FP.Core.unitsOf_start ha, Int.sub_self, Int.toNat_zero, Nat.pow_zero, Nat.mul_one, Nat.mul_one, hv]
      omega
  · have h := FP.Core.fadd_mag (a := x) (b := y) (K := b) (by rw [Nat.mod_eq_of_lt (by omega)]; exact hx2) (by rw [Nat.mod_eq_of_lt (by omega)]; exact hy2) (by omega)
    have e : (FP.Core.fadd x y).toNat % 2 ^ 31 = (FP.fadd x y).toNat := Nat.mod_eq_of_lt hpos
    rw [e] at h
    omega
theorem tmf_add0 {y : UInt32} (h : y.toNat < 255 * 2 ^ 23) : FP.fadd FP.fconst0 y = y := by
  have h1 : FP.Core.val32 y ≠ .nan := (FP.Core.ne_nan32 y).mpr (by rw [Nat.mod_eq_of_lt (by omega)]; omega)
  have h2 : y ≠ FP.Core.fzeroNeg := by
    intro e
    rw [e] at h
    exact absurd h (by decide)
  have h3 := FP.Core.fadd_zero h1 h2
  rw [FP.Core.fadd_comm] at h3
  exact h3
theorem tmf_i2f {k j : Nat} (h1 : 1 ≤ k) (h2 : k ≤ 2 ^ j) (hj : j ≤ 24) : 127 * 2 ^ 23 ≤ (FP.i2f (nI k)).toNat ∧ (FP.i2f (nI k)).toNat < (j + 128) * 2 ^ 23 := by
  have hk : k < 2 ^ 31 := by
    have : 2 ^ j ≤ 2 ^ 24 := Nat.pow_le_pow_right (by decide) hj
    omega
  have hi : (nI k).toInt = (k : Int) := nI_toInt hk
  have hdec : FP.Core.decode FP.Core.b32 (FP.i2f (nI k)).toNat = FP.Core.roundRatio FP.Core.b32 false k 1 0 := by
    have h := FP.Core.val32_i2f (nI k)
    simp only [FP.Core.val32, hi, FP.Core.ofInt] at h
    have e1 : decide ((k : Int) < 0) = false := decide_eq_false (by omega)
    rw [e1, Int.natAbs_natCast] at h
    exact h
  have hpos := tm_fpos hdec
  constructor
  · have h := (FP.Core.i2f_big (v := nI k) (by rw [hi]; omega)).1
    have e : (FP.Core.i2f (nI k)).toNat % 2 ^ 31 = (FP.i2f (nI k)).toNat := Nat.mod_eq_of_lt hpos
    rw [e] at h
    exact h
  · have h := FP.Core.fromInt_mag32 (FP.Core.toNat_i2f (nI k)) (j := j) (K := j + 127) (by rw [hi, Int.natAbs_natCast]; exact h2) (by omega) (by omega)
    have e : (FP.Core.i2f (nI k)).toNat % 2 ^ 31 = (FP.i2f (nI k)).toNat := Nat.mod_eq_of_lt hpos
    rw [e] at h
    omega
theorem tmf_nn {x : UInt32} (h : x.toNat < 255 * 2 ^ 23) : tm_nn x = true := by
  simp only [tm_nn, decide_eq_true_eq, UInt32.le_iff_toNat_le, UInt32.toNat_and]
  have e : x.toNat &&& (2147483647 : UInt32).toNat = x.toNat % 2 ^ 31 := by
    rw [show (2147483647 : UInt32).toNat = 2 ^ 31 - 1 from rfl, Nat.and_two_pow_sub_one_eq_mod]
  rw [e, Nat.mod_eq_of_lt (by omega), show (2139095040 : UInt32).toNat = 255 * 2 ^ 23 from rfl]
  omega
