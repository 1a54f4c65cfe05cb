/-! worstAspect, averageAspect -/
variable {n W H pad md : Nat} {own par dep : Nat → Nat} {r : Nat → tm_R} {hb : Nat → Bool} {d e d' e' : tm_M}
def tm_asp (w h : Nat) : UInt32 := if w ≤ h then FP.fdiv (FP.i2f (nI h)) (FP.i2f (nI w)) else FP.fdiv (FP.i2f (nI w)) (FP.i2f (nI h))
theorem tm_i2f_s : ∀ k, k < 200 → (FP.i2f (nI k)).toNat ≤ (FP.i2f (nI (k + 1))).toNat := by decide +kernel
theorem tm_i2f_m {a : Nat} : ∀ q, a + q ≤ 200 → (FP.i2f (nI a)).toNat ≤ (FP.i2f (nI (a + q))).toNat := by
  intro q
  induction q with
  | zero => intro _; exact Nat.le_refl _
  | succ q ih =>
    intro h
    exact Nat.le_trans (ih (by omega)) (tm_i2f_s (a + q) (by omega))
theorem tm_asp1 {w h : Nat} (hw : 1 ≤ w) (hwh : w ≤ h) (hh : h ≤ 200) : tm_pf 127 137 (FP.fdiv (FP.i2f (nI h)) (FP.i2f (nI w))) := by
  have h1 := tm_i2f_8 (k := h) (by omega) hh
  have h2 := tm_i2f_8 (k := w) hw (by omega)
  have h3 := (tmf_div h1.1 h1.2 h2.1 h2.2 (by decide) (by decide) (by decide) (by decide) 118 137 (by decide) (by decide) (by decide) (by decide) (by decide) (by decide)).2
  have h4 := tm_i2f_m (a := w) (h - w) (by omega)
  rw [show w + (h - w) = h by omega] at h4
  exact ⟨tmf_div1 h2.1 h4 h1.2 (by decide) (by decide), h3⟩
theorem tm_asp_pf {w h : Nat} (hw : 1 ≤ w ∧ w ≤ 200) (hh : 1 ≤ h ∧ h ≤ 200) : tm_pf 127 137 (tm_asp w h) := by
  unfold tm_asp
  by_cases c : w ≤ h
  · rw [if_pos c]
    exact tm_asp1 hw.1 c hh.2
  · rw [if_neg c]
    exact tm_asp1 hh.1 (by omega) hw.2
def tm_la (n : Nat) (par : Nat → Nat) (r : Nat → tm_R) (k : Nat) : Bool := decide (tm_cc par k n = 0 ∧ 1 ≤ (r k).2.2.1 ∧ 1 ≤ (r k).2.2.2)
theorem tm_la_i {k : Nat} : tm_la n par r k = true ↔ (tm_cc par k n = 0 ∧ 1 ≤ (r k).2.2.1 ∧ 1 ≤ (r k).2.2.2) := ⟨of_decide_eq_true, decide_eq_true⟩
def tm_wa (n : Nat) (par : Nat → Nat) (r : Nat → tm_R) : Nat → UInt32
  | 0 => FP.fconst0
  | k + 1 => if tm_la n par r k = true then (if (tm_asp (r k).2.2.1 (r k).2.2.2).toNat < (tm_wa n par r k).toNat then tm_wa n par r k else tm_asp (r k).2.2.1 (r k).2.2.2) else tm_wa n par r k
def tm_as (n : Nat) (par : Nat → Nat) (r : Nat → tm_R) : Nat → UInt32
  | 0 => FP.fconst0
  | k + 1 => if tm_la n par r k = true then FP.fadd (tm_as n par r k) (tm_asp (r k).2.2.1 (r k).2.2.2) else tm_as n par r k
def tm_ac (n : Nat) (par : Nat → Nat) (r : Nat → tm_R) : Nat → Nat
  | 0 => 0
  | k + 1 => if tm_la n par r k = true then tm_ac n par r k + 1 else tm_ac n par r k
theorem tm_ac_le : ∀ k, tm_ac n par r k ≤ k := by
  intro k
  induction k with
  | zero => exact Nat.le_refl _
  | succ k ih =>
    simp only [tm_ac]
    split <;> omega
theorem tm_u24 : ∀ c, c < 25 → FP.Core.unitsOf FP.Core.b32 (FP.i2f (nI (c + 1))).toNat ≤ FP.Core.unitsOf FP.Core.b32 (FP.i2f (nI c)).toNat + FP.Core.unitsOf FP.Core.b32 (127 * 2 ^ 23) := by decide +kernel
theorem tm_i1 : (FP.i2f (nI 1)).toNat = 127 * 2 ^ 23 := by decide +kernel
theorem tm_i25 : ∀ c, c < 26 → (FP.i2f (nI c)).toNat ≤ 2139095040 := by decide +kernel
theorem tm_asp_I (hr : ∀ k, k < n → (r k).2.2.1 ≤ 200 ∧ (r k).2.2.2 ≤ 200) (hn : n ≤ 24) : ∀ k, k ≤ n → (tm_ac n par r k = 0 → tm_wa n par r k = FP.fconst0 ∧ tm_as n par r k = FP.fconst0) ∧ (tm_ac n par r k ≠ 0 → tm_pf 127 137 (tm_wa n par r k) ∧ (FP.i2f (nI (tm_ac n par r k))).toNat ≤ (tm_as n par r k).toNat ∧ (tm_as n par r k).toNat < (137 + 2 * (tm_ac n par r k - 1)) * 2 ^ 23) := by
  intro k
  induction k with
  | zero => intro _; exact ⟨fun _ => ⟨rfl, rfl⟩, fun q => absurd rfl q⟩
  | succ k ih =>
    intro hk
    obtain ⟨i1, i2⟩ := ih (by omega)
    have hck := tm_ac_le (n := n) (par := par) (r := r) k
    simp only [tm_ac, tm_wa, tm_as]
    by_cases c : tm_la n par r k = true
    · rw [if_pos c, if_pos c, if_pos c]
      obtain ⟨c1, c2, c3⟩ := tm_la_i.mp c
      obtain ⟨r1, r2⟩ := hr k (by omega)
      have hp := tm_asp_pf ⟨c2, r1⟩ ⟨c3, r2⟩
      generalize tm_asp (r k).2.2.1 (r k).2.2.2 = a at hp ⊢
      refine ⟨fun q => by omega, fun _ => ?_⟩
      by_cases z : tm_ac n par r k = 0
      · obtain ⟨j1, j2⟩ := i1 z
        rw [j1, j2, z, if_neg (by rw [show FP.fconst0.toNat = 0 from by decide]; omega), tmf_add0 (tm_pf_lt hp (by decide)), Nat.zero_add, tm_i1]
        exact ⟨hp, hp.1, hp.2⟩
      · obtain ⟨j1, j2, j3⟩ := i2 z
        have b1 := tm_i2f_8 (k := tm_ac n par r k) (by omega) (by omega)
        have hx1 : 127 * 2 ^ 23 ≤ (tm_as n par r k).toNat := Nat.le_trans b1.1 j2
        have hy2 : a.toNat < (137 + 2 * (tm_ac n par r k - 1)) * 2 ^ 23 := Nat.lt_of_lt_of_le hp.2 (Nat.mul_le_mul_right _ (by omega))
        refine ⟨?_, ?_, ?_⟩
        · split
          · exact j1
          · exact hp
        · refine tmf_addge hx1 j3 hy2 (by omega) (by decide) (tm_i25 _ (by omega)) ?_
          refine Nat.le_trans (tm_u24 _ (by omega)) (Nat.add_le_add (FP.Core.unitsOf_le_iff.mpr j2) (FP.Core.unitsOf_le_iff.mpr hp.1))
        · have := (tmf_add hx1 j3 hy2 (by omega) (by decide)).2
          rw [show 137 + 2 * (tm_ac n par r k + 1 - 1) = 137 + 2 * (tm_ac n par r k - 1) + 2 by omega]
          exact this
    · rw [if_neg c, if_neg c, if_neg c]
      exact ⟨i1, i2⟩
/-- the average is from 1 on -/
theorem tm_aav_pf (hr : ∀ k, k < n → (r k).2.2.1 ≤ 200 ∧ (r k).2.2.2 ≤ 200) (hn : n ≤ 24) (hc : tm_ac n par r n ≠ 0) : tm_pf 127 184 (FP.fdiv (tm_as n par r n) (FP.i2f (nI (tm_ac n par r n)))) := by
  have hck := tm_ac_le (n := n) (par := par) (r := r) n
  obtain ⟨j1, j2, j3⟩ := (tm_asp_I hr hn n (Nat.le_refl _)).2 hc
  have b1 := tm_i2f_5 (k := tm_ac n par r n) (by omega) (by omega)
  have hx1 : 127 * 2 ^ 23 ≤ (tm_as n par r n).toNat := Nat.le_trans b1.1 j2
  have hx2 : (tm_as n par r n).toNat < 183 * 2 ^ 23 := Nat.lt_of_lt_of_le j3 (Nat.mul_le_mul_right _ (by omega))
  exact ⟨tmf_div1 b1.1 j2 hx2 (by decide) (by decide), (tmf_div hx1 hx2 b1.1 b1.2 (by decide) (by decide) (by decide) (by decide) 121 184 (by decide) (by decide) (by decide) (by decide) (by decide) (by decide)).2⟩
theorem tm_J_wh (h : tm_J d e n own par dep W H pad md r hb) : ∀ k, k < n → (r k).2.2.1 ≤ 200 ∧ (r k).2.2.2 ≤ 200 := fun k hk => by
  have := tm_J_in h hk
  omega
theorem tmX7_lwa (N : Nat) (h : tm_J d e n own par dep W H pad md r hb) {i : Nat} (hi : i < n) : fX1_isLeafWithArea N (tm_sh d 4) (nI i) = some (if tm_la n par r i = true then 1 else 0) := by
  have hn24 := h.1.1.2.1
  obtain ⟨z1, z2⟩ := tm_J_wh h i hi
  obtain ⟨q1, q2, q3, q4, q5, q6, q7, q8⟩ := tm_J_l h hi
  have q7' : tm_sh (tm_sh d 4) 4 3 i = nI (r i).2.2.1 := q7
  have q8' : tm_sh (tm_sh d 4) 4 4 i = nI (r i).2.2.2 := q8
  simp only [fX1_isLeafWithArea, fX3_area]
  rw [tmX7_leaf N h hi]
  simp only [Option.bind_some]
  have hi' := tm_la_i (n := n) (par := par) (r := r) (k := i)
  by_cases c : tm_cc par i n = 0
  · rw [if_pos c, if_neg tm_10, tm_gT (tm_inbN (show i < 24 by omega) (by decide)), nI_clamp (show i < 2 ^ 31 by omega), q7', q8', pk_mul]
    simp only [Option.bind_some]
    by_cases c1 : 1 ≤ (r i).2.2.1 ∧ 1 ≤ (r i).2.2.2
    · have m1 : 0 < (r i).2.2.1 * (r i).2.2.2 := Nat.mul_pos (by omega) (by omega)
      have m2 : (r i).2.2.1 * (r i).2.2.2 ≤ 200 * 200 := Nat.mul_le_mul z1 z2
      rw [if_neg (nI_nle m1 (by omega)), if_pos (hi'.mpr ⟨c, c1⟩)]
    · have m0 : (r i).2.2.1 * (r i).2.2.2 = 0 := by
        by_cases cz : (r i).2.2.1 = 0
        · rw [cz, Nat.zero_mul]
        · rw [show (r i).2.2.2 = 0 by omega, Nat.mul_zero]
      rw [m0, if_pos (show nI 0 ≤ 0 from by decide +kernel), if_neg (show ¬ tm_la n par r i = true from fun q => c1 (hi'.mp q).2)]
  · rw [if_neg c, if_pos tm_00, if_neg (show ¬ tm_la n par r i = true from fun q => c (hi'.mp q).1)]
theorem tmX3_asp (N : Nat) {D : tm_M} {i w h : Nat} (hi : i < 24) (h3 : D 3 i = nI w) (h4 : D 4 i = nI h) (hw : 1 ≤ w ∧ w ≤ 200) (hh : 1 ≤ h ∧ h ≤ 200) : fX3_aspect N D (nI i) = some (tm_asp w h) := by
  have hp := tm_asp_pf hw hh
  simp only [fX3_aspect, tm_nm]
  rw [tm_gT (tm_inbN hi (by decide)), nI_clamp (show i < 2 ^ 31 by omega), h3, h4]
  unfold tm_asp at hp ⊢
  by_cases c : w ≤ h
  · rw [if_pos c] at hp ⊢
    have e1 : (if nI w < nI h then nI h else nI w) = nI h := by
      by_cases c2 : w < h
      · rw [if_pos (nI_lt c2 (by omega))]
      · rw [if_neg (nI_nlt (by omega) (by omega)), show w = h by omega]
    rw [e1, if_neg (show ¬ nI h < nI w from nI_nlt c (by omega)), if_neg (nI_nle (by omega) (by omega)), tm_gT (tm_pf_nn hp (by decide))]
  · rw [if_neg c] at hp ⊢
    rw [if_pos (show nI h < nI w from nI_lt (by omega) (by omega)), if_neg (show ¬ nI w < nI h from nI_nlt (by omega) (by omega)), if_neg (nI_nle (by omega) (by omega)), tm_gT (tm_pf_nn hp (by decide))]
theorem tm_wa_lt (hr : ∀ k, k < n → (r k).2.2.1 ≤ 200 ∧ (r k).2.2.2 ≤ 200) (hn : n ≤ 24) {k : Nat} (hk : k ≤ n) : (tm_wa n par r k).toNat < 255 * 2 ^ 23 := by
  obtain ⟨i1, i2⟩ := tm_asp_I (par := par) hr hn k hk
  by_cases z : tm_ac n par r k = 0
  · rw [(i1 z).1]
    decide
  · exact tm_pf_lt (i2 z).1 (by decide)
theorem tm_as_lt (hr : ∀ k, k < n → (r k).2.2.1 ≤ 200 ∧ (r k).2.2.2 ≤ 200) (hn : n ≤ 24) {k : Nat} (hk : k ≤ n) : (tm_as n par r k).toNat < 255 * 2 ^ 23 := by
  obtain ⟨i1, i2⟩ := tm_asp_I (par := par) hr hn k hk
  have hck := tm_ac_le (n := n) (par := par) (r := r) k
  by_cases z : tm_ac n par r k = 0
  · rw [(i1 z).2]
    decide
  · exact Nat.lt_of_lt_of_le (i2 z).2.2 (Nat.mul_le_mul_right _ (by omega))
/-- what both answer -/
def tm_wR (n : Nat) (par : Nat → Nat) (r : Nat → tm_R) : Int32 := if tm_ac n par r n = 0 then -1 else nI (tm_wa n par r n).toNat
def tm_aR (n : Nat) (par : Nat → Nat) (r : Nat → tm_R) : Int32 := if tm_ac n par r n = 0 then -1 else nI (FP.fdiv (tm_as n par r n) (FP.i2f (nI (tm_ac n par r n)))).toNat
theorem tmX7_wst {N : Nat} (hN : 300 ≤ N) (h : tm_J d e n own par dep W H pad md r hb) : fX7_worstAspect N d = some (tm_wR n par r) := by
  have hn24 := h.1.1.2.1
  have hr := tm_J_wh h
  have x1 := (tm_J_x h).1
  have l1 : tm_whl (bX7_worstAspect_4 N d) N (tm_wa n par r 0, nI 0) = some (tm_wa n par r n, nI n) := by
    refine tm_forE (fun i => (tm_wa n par r i, nI i)) 0 n (by omega) ?_ ?_ (by omega)
    · intro i _ hi
      obtain ⟨q1, q2, q3, q4, q5, q6, q7, q8⟩ := tm_J_l h hi
      obtain ⟨z1, z2⟩ := hr i hi
      simp only [bX7_worstAspect_4, tm_wa]
      rw [x1, if_neg (nI_ge hi (by omega)), tmX7_lwa N h hi]
      simp only [Option.bind_some]
      by_cases c : tm_la n par r i = true
      · obtain ⟨c1, c2, c3⟩ := tm_la_i.mp c
        have hp := tm_asp_pf ⟨c2, z1⟩ ⟨c3, z2⟩
        have hc := (tm_cmp (op := .l) (tm_pf_lt hp (by decide)) (tm_wa_lt (par := par) hr hn24 (show i ≤ n by omega))).1
        rw [if_pos c, if_pos c, if_neg tm_10, tmX3_asp N (D := tm_sh d 8) (show i < 24 by omega) q7 q8 ⟨c2, z1⟩ ⟨c3, z2⟩]
        simp only [Option.bind_some]
        by_cases cc : (tm_asp (r i).2.2.1 (r i).2.2.2).toNat < (tm_wa n par r i).toNat
        · rw [if_pos cc, if_pos (hc.mpr cc)]
          simp only [tm_nm, nI_1]
        · rw [if_neg cc, if_neg (fun q => cc (hc.mp q))]
          simp only [tm_nm, nI_1]
      · rw [if_neg c, if_neg c, if_pos tm_00]
        simp only [tm_nm, nI_1]
    · simp only [bX7_worstAspect_4]
      rw [x1, if_pos (nI_le (Nat.le_refl _) (by omega))]
  simp only [fX7_worstAspect]
  rw [show (FP.fconst0, (0 : Int32)) = (tm_wa n par r 0, nI 0) from rfl, l1]
  simp only [Option.bind_some]
  have hc := (tm_cmp (op := .l) (tm_wa_lt (par := par) hr hn24 (Nat.le_refl n)) (show FP.fconst0.toNat < 255 * 2 ^ 23 from by decide)).2.1
  obtain ⟨i1, i2⟩ := tm_asp_I (par := par) hr hn24 n (Nat.le_refl _)
  unfold tm_wR
  by_cases z : tm_ac n par r n = 0
  · rw [if_pos z, if_pos (hc.mpr (by rw [(i1 z).1]; exact Nat.le_refl _))]
  · have hp := (i2 z).1
    rw [if_neg z, if_neg (fun q => by
      have a := hc.mp q
      rw [show FP.fconst0.toNat = 0 from by decide] at a
      have := hp.1
      omega), tmX7_fb hN hp (by decide)]
    rfl
theorem tmX7_avg {N : Nat} (hN : 300 ≤ N) (h : tm_J d e n own par dep W H pad md r hb) : fX7_averageAspect N d = some (tm_aR n par r) := by
  have hn24 := h.1.1.2.1
  have hr := tm_J_wh h
  have x1 := (tm_J_x h).1
  have hac := tm_ac_le (n := n) (par := par) (r := r) n
  have l1 : tm_whl (bX7_averageAspect_6 N d) N (tm_as n par r 0, nI (tm_ac n par r 0), nI 0) = some (tm_as n par r n, nI (tm_ac n par r n), nI n) := by
    refine tm_forE (fun i => (tm_as n par r i, nI (tm_ac n par r i), nI i)) 0 n (by omega) ?_ ?_ (by omega)
    · intro i _ hi
      obtain ⟨q1, q2, q3, q4, q5, q6, q7, q8⟩ := tm_J_l h hi
      obtain ⟨z1, z2⟩ := hr i hi
      have hs := tm_as_lt (par := par) hr hn24 (k := i + 1) (by omega)
      simp only [tm_as] at hs
      simp only [bX7_averageAspect_6, tm_as, tm_ac]
      rw [x1, if_neg (nI_ge hi (by omega)), tmX7_lwa N h hi]
      simp only [Option.bind_some]
      by_cases c : tm_la n par r i = true
      · obtain ⟨c1, c2, c3⟩ := tm_la_i.mp c
        rw [if_pos c] at hs
        rw [if_pos c, if_pos c, if_pos c, if_neg tm_10, tmX3_asp N (D := tm_sh d 8) (show i < 24 by omega) q7 q8 ⟨c2, z1⟩ ⟨c3, z2⟩]
        simp only [Option.bind_some]
        rw [tm_gT (tmf_nn hs)]
        simp only [tm_nm, nI_1]
      · rw [if_neg c, if_neg c, if_neg c, if_pos tm_00]
        simp only [tm_nm, nI_1]
    · simp only [bX7_averageAspect_6]
      rw [x1, if_pos (nI_le (Nat.le_refl _) (by omega))]
  simp only [fX7_averageAspect]
  rw [show (FP.fconst0, (0 : Int32), (0 : Int32)) = (tm_as n par r 0, nI (tm_ac n par r 0), nI 0) from rfl, l1]
  simp only [Option.bind_some]
  unfold tm_aR
  by_cases z : tm_ac n par r n = 0
  · rw [if_pos z, z, if_pos (show nI 0 ≤ 0 from by decide +kernel)]
  · have hp := tm_aav_pf hr hn24 z
    rw [if_neg z, if_neg (nI_nle (by omega) (by omega)), tm_gT (tm_pf_nn hp (by decide)), tmX7_fb hN hp (by decide)]
    rfl
theorem tmX8_asps {N : Nat} (hN : 300 ≤ N) (g : Int64) (h : tm_J d e n own par dep W H pad md r hb) (hl : tm_laidM e n own par dep r hb) : tm_whl (bX8_aspects_10 N e g) N (FP.fconst0, FP.fconst0, (0 : Int32), (0 : Int32)) = some (tm_wa n par r n, tm_as n par r n, nI (tm_ac n par r n), nI n) := by
  have hn24 := h.1.1.2.1
  have hr := tm_J_wh h
  obtain ⟨m1, m2, m3, m4, m5, m6, m7, m8⟩ := tm_J_m h
  rw [show (FP.fconst0, FP.fconst0, (0 : Int32), (0 : Int32)) = (tm_wa n par r 0, tm_as n par r 0, nI (tm_ac n par r 0), nI 0) from rfl]
  refine tm_forE (fun i => (tm_wa n par r i, tm_as n par r i, nI (tm_ac n par r i), nI i)) 0 n (by omega) ?_ ?_ (by omega)
  · intro i _ hi
    obtain ⟨q1, q2, q3, q4, q5, q6⟩ := tm_M_l hl hi
    obtain ⟨z1, z2⟩ := hr i hi
    have hcl := tm_cc_le (par := par) (p := i) n
    have hs := tm_as_lt (par := par) hr hn24 (k := i + 1) (by omega)
    have hwl := tm_wa_lt (par := par) hr hn24 (show i ≤ n by omega)
    simp only [tm_as] at hs
    simp only [bX8_aspects_10, tm_as, tm_ac, tm_wa, tm_nm]
    rw [show (0 : Int32).toNatClampNeg = 0 from rfl, m1, if_neg (nI_ge hi (by omega)), tmX8_cm hN h.1.1 m1 m7 m8 (show i < 2 ^ 31 by omega)]
    simp only [Option.bind_some]
    by_cases c0 : tm_cc par i n = 0
    · rw [if_pos (show nI (tm_cc par i n) = 0 from by rw [c0]; exact nI_0), tm_gT (tm_inbN (show i < 24 by omega) (by decide)), nI_clamp (show i < 2 ^ 31 by omega), q5, q6]
      by_cases c1 : (r i).2.2.1 = 0
      · have c : ¬ tm_la n par r i = true := fun q => by have := tm_la_i.mp q; omega
        rw [c1, if_pos (show nI 0 ≤ 0 from by decide +kernel), if_neg c, if_neg c, if_neg c]
        simp only [nI_1]
      · rw [if_neg (nI_nle (by omega) (by omega))]
        by_cases c2 : (r i).2.2.2 = 0
        · have c : ¬ tm_la n par r i = true := fun q => by have := tm_la_i.mp q; omega
          rw [c2, if_pos (show nI 0 ≤ 0 from by decide +kernel), if_neg c, if_neg c, if_neg c]
          simp only [nI_1]
        · have c : tm_la n par r i = true := tm_la_i.mpr ⟨c0, by omega, by omega⟩
          have hp := tm_asp_pf (w := (r i).2.2.1) (h := (r i).2.2.2) ⟨by omega, z1⟩ ⟨by omega, z2⟩
          rw [if_pos c] at hs
          rw [if_neg (nI_nle (by omega) (by omega)), if_pos c, if_pos c, if_pos c]
          have fin : ∀ a : UInt32, a = tm_asp (r i).2.2.1 (r i).2.2.2 → (tm_gB (tm_nn a) (if (Op.cmpValue (FP.fcmp a (tm_wa n par r i)) .l) ≤ 0 then (tm_gB (tm_nn (FP.fadd (tm_as n par r i) a)) (some (.inl (tm_wa n par r i, FP.fadd (tm_as n par r i) a, nI (tm_ac n par r i) + 1, nI i + 1)))) else (tm_gB (tm_nn (FP.fadd (tm_as n par r i) a)) (some (.inl (a, FP.fadd (tm_as n par r i) a, nI (tm_ac n par r i) + 1, nI i + 1))))) : Option ((UInt32 × UInt32 × Int32 × Int32) ⊕ (UInt32 × UInt32 × Int32 × Int32))) = some (.inl (if (tm_asp (r i).2.2.1 (r i).2.2.2).toNat < (tm_wa n par r i).toNat then tm_wa n par r i else tm_asp (r i).2.2.1 (r i).2.2.2, FP.fadd (tm_as n par r i) (tm_asp (r i).2.2.1 (r i).2.2.2), nI (tm_ac n par r i + 1), nI (i + 1))) := by
            intro a ea
            subst ea
            have hc := (tm_cmp (op := .l) (tm_pf_lt hp (by decide)) hwl).2.1
            simp only [nI_1]
            rw [tm_gT (tm_pf_nn hp (by decide)), tm_gT (tmf_nn hs), tm_gT (tmf_nn hs)]
            by_cases cc : (tm_asp (r i).2.2.1 (r i).2.2.2).toNat ≤ (tm_wa n par r i).toNat
            · rw [if_pos (hc.mpr cc)]
              by_cases ce : (tm_asp (r i).2.2.1 (r i).2.2.2).toNat < (tm_wa n par r i).toNat
              · rw [if_pos ce]
              · rw [if_neg ce, show tm_wa n par r i = tm_asp (r i).2.2.1 (r i).2.2.2 from UInt32.toNat_inj.mp (by omega)]
            · rw [if_neg (fun q => cc (hc.mp q)), if_neg (by omega)]
          by_cases cw : (r i).2.2.1 ≤ (r i).2.2.2
          · rw [if_pos (nI_le cw (by omega))]
            exact fin _ (by unfold tm_asp; rw [if_pos cw])
          · rw [if_neg (nI_ge (by omega) (by omega))]
            exact fin _ (by unfold tm_asp; rw [if_neg cw])
    · have c : ¬ tm_la n par r i = true := fun q => c0 (tm_la_i.mp q).1
      rw [if_neg (nI_ne0 (by omega) (by omega)), if_neg c, if_neg c, if_neg c]
      simp only [nI_1]
  · simp only [bX8_aspects_10]
    rw [show (0 : Int32).toNatClampNeg = 0 from rfl, m1, if_pos (nI_le (Nat.le_refl _) (by omega))]
theorem tmX8_aw {N : Nat} (hN : 300 ≤ N) (g : Int64) (h : tm_J d e n own par dep W H pad md r hb) (hl : tm_laidM e n own par dep r hb) : fX8_aspects N e g 1 = some (tm_wR n par r) := by
  have hn24 := h.1.1.2.1
  have hr := tm_J_wh h
  have hac := tm_ac_le (n := n) (par := par) (r := r) n
  simp only [fX8_aspects]
  rw [tmX8_asps hN g h hl]
  simp only [Option.bind_some]
  unfold tm_wR
  by_cases z : tm_ac n par r n = 0
  · rw [if_pos z, z, if_pos nI_0]
  · rw [if_neg z, if_neg (nI_ne0 (by omega) (by omega)), if_neg tm_10, tmJ_fb N (tm_wa_lt hr hn24 (Nat.le_refl n))]
    rfl
theorem tmX8_aa {N : Nat} (hN : 300 ≤ N) (g : Int64) (h : tm_J d e n own par dep W H pad md r hb) (hl : tm_laidM e n own par dep r hb) : fX8_aspects N e g 0 = some (tm_aR n par r) := by
  have hn24 := h.1.1.2.1
  have hr := tm_J_wh h
  have hac := tm_ac_le (n := n) (par := par) (r := r) n
  simp only [fX8_aspects]
  rw [tmX8_asps hN g h hl]
  simp only [Option.bind_some]
  unfold tm_aR
  by_cases z : tm_ac n par r n = 0
  · rw [if_pos z, z, if_pos nI_0]
  · have hp := tm_aav_pf hr hn24 z
    rw [if_neg z, if_neg (nI_ne0 (by omega) (by omega)), if_pos trivial, tm_gT (tm_pf_nn hp (by decide)), tmJ_fb N (tm_pf_lt hp (by decide))]
    rfl
theorem tm_s19 {N : Nat} (hN : 300 ≤ N) : tm_S19 N tm_Inv := by
  intro d e g hI
  obtain ⟨n, own, par, dep, W, H, pad, md, r, hb, h⟩ := hI
  obtain ⟨e', l1, h', l2, _⟩ := tm_lay hN g h
  refine ⟨tm_wR n par r, e', tmX7_wst hN h, ?_, tm_J_I h' g⟩
  simp only [fX8_worstAspect]
  rw [l1]
  simp only [Option.bind_some]
  rw [tmX8_aw hN g h' l2]
  rfl
theorem tm_s20 {N : Nat} (hN : 300 ≤ N) : tm_S20 N tm_Inv := by
  intro d e g hI
  obtain ⟨n, own, par, dep, W, H, pad, md, r, hb, h⟩ := hI
  obtain ⟨e', l1, h', l2, _⟩ := tm_lay hN g h
  refine ⟨tm_aR n par r, e', tmX7_avg hN h, ?_, tm_J_I h' g⟩
  simp only [fX8_averageAspect]
  rw [l1]
  simp only [Option.bind_some]
  rw [tmX8_aa hN g h' l2]
  rfl
