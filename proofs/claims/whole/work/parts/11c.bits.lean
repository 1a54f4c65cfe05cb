/-! the bits of a float from 1 on; sums and quotients from below -/
theorem tm_fv {E t : Nat} {x : UInt32} (hE : 1 ≤ E) (hE2 : E ≤ 254) (ht : t < 2 ^ 23) (hx : x.toNat = E * 2 ^ 23 + t) : FP.Core.val32 x = .fin false (2 ^ 23 + t) ((E : Int) - 150) ∧ FP.Core.fits FP.Core.b32 (.fin false (2 ^ 23 + t) ((E : Int) - 150)) := by
  have h : x.toNat = FP.Core.assemble FP.Core.b32 false E t := by
    rw [hx]
    unfold FP.Core.assemble
    rw [FP.Core.tails_b32, show (false.toNat * FP.Core.b32.exps + E) = E from by show 0 * _ + E = E; rw [Nat.zero_mul, Nat.zero_add]]
  have hv : FP.Core.val32 x = .fin false (2 ^ 23 + t) ((E : Int) - 150) := by
    show FP.Core.decode FP.Core.b32 x.toNat = _
    rw [h, FP.Core.decode_assemble _ _ _ _ (show E < FP.Core.b32.exps from Nat.lt_of_le_of_lt hE2 (by decide)) (by rw [FP.Core.tails_b32]; exact ht), FP.Core.exps_b32, if_neg (by omega), if_neg (by omega), FP.Core.tails_b32, FP.Core.qmin_b32]
    congr 1
    omega
  exact ⟨hv, hv ▸ FP.Core.val32_fits x⟩
theorem tm_ofN {m : Nat} (h : m < 2 ^ 32) : (UInt32.ofNat m).toNat = m := by
  rw [UInt32.toNat_ofNat']
  exact Nat.mod_eq_of_lt h
theorem tm_half {E t : Nat} {x : UInt32} (hE : 2 ≤ E) (hE2 : E ≤ 254) (ht : t < 2 ^ 23) (hx : x.toNat = E * 2 ^ 23 + t) : (FP.fdiv x FP.fconst2).toNat = (E - 1) * 2 ^ 23 + t := by
  obtain ⟨v1, f1⟩ := tm_fv (by omega) hE2 ht hx
  have hy : (UInt32.ofNat ((E - 1) * 2 ^ 23 + t)).toNat = (E - 1) * 2 ^ 23 + t := tm_ofN (by omega)
  obtain ⟨v2, f2⟩ := tm_fv (E := E - 1) (by omega) (by omega) ht hy
  have hq : FP.Core.val32 (FP.Core.fdiv x FP.Core.fconst2) = FP.Core.val32 (UInt32.ofNat ((E - 1) * 2 ^ 23 + t)) := by
    rw [FP.Core.val32_fdiv, v1, v2, show FP.Core.val32 FP.Core.fconst2 = .fin false (2 ^ 23) (-22) from by decide +kernel]
    simp only [FP.Core.quotient]
    rw [if_neg (by decide)]
    refine FP.Core.roundRatio_exact FP.Core.good_b32 (by decide) f2 ?_
    rw [show ((E : Int) - 150 - -22 - (((E - 1 : Nat) : Int) - 150)).toNat = 23 by omega, show ((((E - 1 : Nat) : Int) - 150) - ((E : Int) - 150 - -22)).toNat = 0 by omega, Nat.pow_zero, Nat.mul_one]
  have e : UInt32.ofNat ((E - 1) * 2 ^ 23 + t) = FP.Core.fdiv x FP.Core.fconst2 := FP.Core.val32_inj (by rw [v2]; exact FP.Core.Datum.noConfusion) hq.symm
  show (FP.Core.fdiv x FP.Core.fconst2).toNat = _
  rw [← e]
  exact hy
theorem tm_big {t : Nat} {x : UInt32} (ht : t < 2 ^ 23) (hx : x.toNat = 127 * 2 ^ 23 + t) : (FP.fmul x 1258291200).toNat = 150 * 2 ^ 23 + t := by
  obtain ⟨v1, f1⟩ := tm_fv (by decide) (by decide) ht hx
  have hy : (UInt32.ofNat (150 * 2 ^ 23 + t)).toNat = 150 * 2 ^ 23 + t := tm_ofN (by omega)
  obtain ⟨v2, f2⟩ := tm_fv (E := 150) (by decide) (by decide) ht hy
  have hq : FP.Core.val32 (FP.Core.fmul x 1258291200) = FP.Core.val32 (UInt32.ofNat (150 * 2 ^ 23 + t)) := by
    rw [FP.Core.val32_fmul, v1, v2, show FP.Core.val32 1258291200 = .fin false (2 ^ 23) 0 from by decide +kernel]
    show FP.Core.roundRatio FP.Core.b32 false ((2 ^ 23 + t) * 2 ^ 23) 1 (((127 : Nat) : Int) - 150 + 0) = _
    refine FP.Core.roundRatio_exact FP.Core.good_b32 (by decide) f2 ?_
    rw [show (((127 : Nat) : Int) - 150 + 0 - (((150 : Nat) : Int) - 150)).toNat = 0 by decide, show ((((150 : Nat) : Int) - 150) - (((127 : Nat) : Int) - 150 + 0)).toNat = 23 by decide, Nat.pow_zero, Nat.mul_one, Nat.mul_one]
  have e : UInt32.ofNat (150 * 2 ^ 23 + t) = FP.Core.fmul x 1258291200 := FP.Core.val32_inj (by rw [v2]; exact FP.Core.Datum.noConfusion) hq.symm
  show (FP.Core.fmul x 1258291200).toNat = _
  rw [← e]
  exact hy
theorem tm_f2i {t : Nat} {y : UInt32} (ht : t < 2 ^ 23) (hy : y.toNat = 150 * 2 ^ 23 + t) : FP.f2i y = nI (2 ^ 23 + t) := by
  obtain ⟨v, _⟩ := tm_fv (E := 150) (by decide) (by decide) ht hy
  have ht' : FP.Core.truncate false (2 ^ 23 + t) (((150 : Nat) : Int) - 150) = ((2 ^ 23 + t : Nat) : Int) := by
    rw [show ((150 : Nat) : Int) - 150 = 0 from by decide]
    show (((2 ^ 23 + t) * 2 ^ 0 / 2 ^ 0 : Nat) : Int) = _
    rw [Nat.pow_zero, Nat.mul_one, Nat.div_one]
  refine Int32.toInt_inj.mp ?_
  show (Int32.ofInt (FP.Core.toInt (-2 ^ 31) (2 ^ 31 - 1) (FP.Core.val32 y))).toInt = _
  rw [v]
  show (Int32.ofInt (max (-2 ^ 31) (min (2 ^ 31 - 1) (FP.Core.truncate false (2 ^ 23 + t) (((150 : Nat) : Int) - 150))))).toInt = _
  rw [ht', show max (-2 ^ 31) (min (2 ^ 31 - 1) ((2 ^ 23 + t : Nat) : Int)) = ((2 ^ 23 + t : Nat) : Int) by omega, Int32.toInt_ofInt_of_le (by omega) (by omega), nI_toInt (by omega)]
theorem tmX7_fb {N : Nat} (hN : 300 ≤ N) {x : UInt32} {b : Nat} (h : tm_pf 127 b x) (hb : b ≤ 254) : fX7_floatBits N x = some (nI x.toNat) := by
  obtain ⟨E, t, ht, hx⟩ : ∃ E t, t < 2 ^ 23 ∧ x.toNat = E * 2 ^ 23 + t := ⟨x.toNat / 2 ^ 23, x.toNat % 2 ^ 23, Nat.mod_lt _ (by decide), by rw [Nat.mul_comm]; exact (Nat.div_add_mod _ _).symm⟩
  obtain ⟨h1, h2⟩ := h
  have hE1 : 127 ≤ E := by omega
  have hE2 : E < b := by omega
  have hof : ∀ k, k ≤ E - 127 → (UInt32.ofNat ((E - k) * 2 ^ 23 + t)).toNat = (E - k) * 2 ^ 23 + t := fun k hk => tm_ofN (by omega)
  have hl : tm_whl (bX7_floatBits_4 N) N (UInt32.ofNat ((E - 0) * 2 ^ 23 + t), nI 0) = some (UInt32.ofNat (127 * 2 ^ 23 + t), nI (E - 127)) := by
    refine tm_forE (fun k => (UInt32.ofNat ((E - k) * 2 ^ 23 + t), nI k)) 0 (E - 127) (by omega) ?_ ?_ (by omega)
    · intro k _ hk
      have y1 := hof k (by omega)
      have y2 := tm_half (E := E - k) (by omega) (by omega) ht y1
      have y3 : FP.fdiv (UInt32.ofNat ((E - k) * 2 ^ 23 + t)) FP.fconst2 = UInt32.ofNat ((E - (k + 1)) * 2 ^ 23 + t) := by
        refine UInt32.toNat_inj.mp ?_
        rw [y2, hof (k + 1) (by omega), show E - k - 1 = E - (k + 1) by omega]
      have c1 := (tm_cmp (op := .l) (x := UInt32.ofNat ((E - k) * 2 ^ 23 + t)) (y := FP.fconst2) (by rw [y1]; omega) (by decide)).1
      simp only [bX7_floatBits_4]
      rw [if_neg (fun q => by
        have := c1.mp q
        rw [y1, show FP.fconst2.toNat = 128 * 2 ^ 23 from by decide] at this
        omega), if_neg (show ¬ (127 : Int32) ≤ nI k from nI_ge (b := 127) (by omega) (by decide)), y3, tm_gT (tmf_nn (by rw [hof (k + 1) (by omega)]; omega))]
      simp only [tm_nm, nI_1]
    · have y1 := hof (E - 127) (Nat.le_refl _)
      have c1 := (tm_cmp (op := .l) (x := UInt32.ofNat ((E - (E - 127)) * 2 ^ 23 + t)) (y := FP.fconst2) (by rw [y1]; omega) (by decide)).1
      simp only [bX7_floatBits_4]
      rw [if_pos (c1.mpr (by rw [y1, show FP.fconst2.toNat = 128 * 2 ^ 23 from by decide]; omega)), show E - (E - 127) = 127 by omega]
  have hx0 : x = UInt32.ofNat ((E - 0) * 2 ^ 23 + t) := by
    refine UInt32.toNat_inj.mp ?_
    rw [hof 0 (by omega), hx, Nat.sub_zero]
  have z1 : (UInt32.ofNat (127 * 2 ^ 23 + t)).toNat = 127 * 2 ^ 23 + t := tm_ofN (by omega)
  have z2 := tm_big ht z1
  have z3 := tm_f2i ht z2
  have z8 : (8388608 : Int32) = nI (2 ^ 23) := by decide +kernel
  have e8 : 2 ^ 23 + t - 2 ^ 23 = t := Nat.add_sub_cancel_left _ _
  have e9 : nI 127 + nI (E - 127) = nI E := by rw [nI_add, show 127 + (E - 127) = E by omega]
  simp only [fX7_floatBits]
  rw [show (x, (0 : Int32)) = (UInt32.ofNat ((E - 0) * 2 ^ 23 + t), nI 0) from by rw [← hx0]; rfl, hl]
  simp only [Option.bind_some, tm_nm]
  rw [tm_gT (tmf_nn (by rw [z2]; omega)), z3, z8, pk_sub (Nat.le_add_right _ _), e8, show (127 : Int32) = nI 127 from by decide +kernel, e9, pk_shlN (n := E) (23 &&& 31) 23 (by decide) (by omega), nI_add, hx]
theorem tm_toI (x : UInt32) : x.toInt32 = nI x.toNat := by
  refine Int32.toBitVec_inj.1 ?_
  show x.toBitVec = BitVec.ofNat 32 x.toBitVec.toNat
  refine BitVec.eq_of_toNat_eq ?_
  rw [BitVec.toNat_ofNat, Nat.mod_eq_of_lt x.toBitVec.isLt]
theorem tmJ_fb (N : Nat) {x : UInt32} (h : x.toNat < 255 * 2 ^ 23) : fJxf58ca_floatToIntBits_5c35a N x = some (nI x.toNat) := by
  have hn : FP.Core.val32 x ≠ .nan := (FP.Core.ne_nan32 x).mpr (by rw [Nat.mod_eq_of_lt (by omega)]; omega)
  have e : FP.fcmp x x = some .eq := FP.Core.fcmp_self hn
  simp only [fJxf58ca_floatToIntBits_5c35a, fJxf58ca_isNaN_12338]
  rw [e, show Op.cmpValue (some Ordering.eq) .l = 0 from rfl, if_pos tm_00]
  simp only [Option.bind_some]
  rw [if_pos trivial, tm_toI]
theorem tmf_div1 {x y : UInt32} {a b : Nat} (hy : a * 2 ^ 23 ≤ y.toNat) (hxy : y.toNat ≤ x.toNat) (hx2 : x.toNat < b * 2 ^ 23) (hb : b ≤ 255) (ha : 1 ≤ a) : 127 * 2 ^ 23 ≤ (FP.fdiv x y).toNat := by
  obtain ⟨c1, q, x1, x2, x3⟩ := tm_fdat hx2 hb
  obtain ⟨d1, r, y1, y2, y3⟩ := tm_fdat (x := y) (b := b) (by omega) hb
  have u2 : FP.Core.b32.tails * 2 ^ (a - 1) ≤ FP.Core.unitsOf FP.Core.b32 y.toNat := by
    rw [← FP.Core.unitsOf_start ha]
    exact FP.Core.unitsOf_le_iff.mpr (by rw [FP.Core.tails_b32]; exact hy)
  have u3 : FP.Core.unitsOf FP.Core.b32 y.toNat ≤ FP.Core.unitsOf FP.Core.b32 x.toNat := FP.Core.unitsOf_le_iff.mpr hxy
  have hd0 : d1 ≠ 0 := by
    rintro rfl
    have h1 : FP.Core.zmag FP.Core.b32 (.fin false 0 r) = 0 := Nat.zero_mul _
    have := Nat.mul_pos (FP.Core.tails_pos FP.Core.b32) (Nat.two_pow_pos (a - 1))
    omega
  have hdec : FP.Core.decode FP.Core.b32 (FP.fdiv x y).toNat = FP.Core.roundRatio FP.Core.b32 false c1 d1 (q - r) := by
    have h := FP.Core.val32_fdiv x y
    simp only [FP.Core.val32] at h
    rw [x1, y1] at h
    simp only [FP.Core.quotient, if_neg hd0] at h
    exact h
  have hpos := tm_fpos hdec
  have hq1 := x2.2.1
  have hr1 := y2.2.1
  have hqm := FP.Core.qmin_b32
  have h := FP.Core.mag_ge FP.Core.good_b32 (m := 127 * FP.Core.b32.tails) hdec (by omega) (e0 := 2 * FP.Core.b32.qmin - r) (by omega) (by omega) (by rw [FP.Core.infBits_b32, FP.Core.tails_b32]; decide) ?_
  · rw [tm_fmag hpos, FP.Core.tails_b32] at h
    exact h
  · rw [FP.Core.unitsOf_start (by omega)]
    have e1 : FP.Core.inUnits c1 (q - r) (2 * FP.Core.b32.qmin - r) = FP.Core.zmag FP.Core.b32 (.fin false c1 q) * 2 ^ 149 := by
      show c1 * _ = c1 * _ * _
      rw [Nat.mul_assoc, ← Nat.pow_add]
      congr 2
      omega
    have e2 : 2 ^ (FP.Core.b32.qmin - (2 * FP.Core.b32.qmin - r)).toNat * d1 = FP.Core.zmag FP.Core.b32 (.fin false d1 r) := by
      show _ = d1 * _
      rw [Nat.mul_comm]
      congr 2
      omega
    rw [e1, Nat.mul_assoc, e2, x3, y3]
    refine Nat.le_trans (Nat.le_of_eq (Nat.mul_comm _ _)) (Nat.mul_le_mul u3 ?_)
    rw [FP.Core.tails_b32]
    exact Nat.le_of_ble_eq_true rfl
theorem tmf_addge {x y : UInt32} {a b m : Nat} (hx : a * 2 ^ 23 ≤ x.toNat) (hx2 : x.toNat < b * 2 ^ 23) (hy2 : y.toNat < b * 2 ^ 23) (hb : b ≤ 255) (ha : 1 ≤ a) (hm : m ≤ 2139095040) (hu : FP.Core.unitsOf FP.Core.b32 m ≤ FP.Core.unitsOf FP.Core.b32 x.toNat + FP.Core.unitsOf FP.Core.b32 y.toNat) : m ≤ (FP.fadd x y).toNat := by
  obtain ⟨c1, q, x1, x2, x3⟩ := tm_fdat hx2 (by omega)
  obtain ⟨d1, r, y1, y2, y3⟩ := tm_fdat hy2 (by omega)
  obtain ⟨sg, v, e, p1, p2, p3⟩ := FP.Core.sum_units x2 y2
  have u1 : FP.Core.b32.tails * 2 ^ (a - 1) ≤ FP.Core.unitsOf FP.Core.b32 x.toNat := by
    rw [← FP.Core.unitsOf_start ha]
    exact FP.Core.unitsOf_le_iff.mpr (by rw [FP.Core.tails_b32]; exact hx)
  have hz : FP.Core.signed sg (FP.Core.inUnits v e FP.Core.b32.qmin) = ((FP.Core.unitsOf FP.Core.b32 x.toNat + FP.Core.unitsOf FP.Core.b32 y.toNat : Nat) : Int) := by
    rw [p3, ← x3, ← y3]
    simp [FP.Core.zval, FP.Core.sgn, FP.Core.signed]
  have hU : 0 < FP.Core.unitsOf FP.Core.b32 x.toNat := Nat.lt_of_lt_of_le (Nat.mul_pos (FP.Core.tails_pos FP.Core.b32) (Nat.two_pow_pos (a - 1))) u1
  have hsg : sg = false := by
    cases sg with
    | false => rfl
    | true =>
      simp only [FP.Core.signed, if_true] at hz
      omega
  subst hsg
  have hv : FP.Core.inUnits v e FP.Core.b32.qmin = FP.Core.unitsOf FP.Core.b32 x.toNat + FP.Core.unitsOf FP.Core.b32 y.toNat := by
    simp only [FP.Core.signed, Bool.false_eq_true, if_false] at hz
    omega
  have hdec : FP.Core.decode FP.Core.b32 (FP.fadd x y).toNat = FP.Core.roundRatio FP.Core.b32 false v 1 e := by
    have h := FP.Core.val32_fadd x y
    simp only [FP.Core.val32] at h
    rw [x1, y1, p1] at h
    exact h
  have hpos := tm_fpos hdec
  have h := FP.Core.mag_ge FP.Core.good_b32 (m := m) hdec (by decide) (e0 := FP.Core.b32.qmin) (by omega) p2 (by rw [FP.Core.infBits_b32]; exact hm) ?_
  · rw [tm_fmag hpos] at h
    exact h
  · rw [Int.sub_self, Int.toNat_zero, Nat.pow_zero, Nat.mul_one, Nat.mul_one, hv]
    exact hu
