/-! removeLeaf and undo: class and reference answer alike -/
variable {n W H pad md : Nat} {own par dep : Nat → Nat} {r : Nat → tm_R} {hb : Nat → Bool} {d e d' e' : tm_M}
theorem tmX7_leaf (N : Nat) (h : tm_J d e n own par dep W H pad md r hb) {i : Nat} (hi : i < n) : fX1_isLeaf N (tm_sh d 4) (nI i) = some (if tm_cc par i n = 0 then 1 else 0) := by
  have hn24 := h.1.1.2.1
  have hc := tm_cc_le (par := par) (p := i) n
  have l3 : tm_sh d 4 11 i = nI (tm_cc par i n) := (tm_J_l h hi).2.2.1
  simp only [fX1_isLeaf]
  rw [tm_gT (tm_inbN (show i < 24 by omega) (by decide)), nI_clamp (show i < 2 ^ 31 by omega), l3]
  by_cases c : tm_cc par i n = 0
  · rw [if_pos c, if_pos (by rw [c]; exact nI_0)]
  · rw [if_neg c, if_neg (nI_ne0 (by omega) (by omega))]
theorem tm_s2 {N : Nat} (hN : 300 ≤ N) : tm_S2 N tm_Inv := by
  intro d e g a hI
  obtain ⟨n, own, par, dep, W, H, pad, md, r, hb, h⟩ := hI
  have hn1 := h.1.1.1
  have hn24 := h.1.1.2.1
  obtain ⟨x1, x2, x3, x4, x5, x6, x7, x8⟩ := tm_J_x h
  obtain ⟨m1, m2, m3, m4, m5, m6, m7, m8⟩ := tm_J_m h
  obtain ⟨v1, v2, v3⟩ := h.1
  simp only [fX7_removeLeaf, fX8_removeLeaf]
  rcases tm_has N g h a with ⟨i, hi, ea, a1, a2⟩ | ⟨a1, a2⟩
  · rw [a1, a2]
    simp only [Option.bind_some]
    rw [if_neg tm_10, if_neg tm_10]
    by_cases h0 : a = 0
    · rw [if_pos h0, if_pos h0]
      exact tm_fin3 N g h
    · rw [if_neg h0, if_neg h0]
      subst ea
      have hi0 : i ≠ 0 := fun q => h0 (by rw [q]; exact nI_0)
      have hcl := tm_cc_le (par := par) (p := i) n
      rw [tmX7_leaf N h hi, tmX8_cm hN v1 m1 m7 m8 (show i < 2 ^ 31 by omega)]
      simp only [Option.bind_some]
      by_cases hc : tm_cc par i n = 0
      · rw [if_pos hc, if_neg tm_10, hc, if_pos (show nI 0 ≤ 0 from by decide +kernel)]
        obtain ⟨t, d1, e1, p1, pd, p2, p3, p4, p5⟩ := tm_push1 hN g h
        have q1 := p4 1 (by omega)
        have q2 := p4 2 (by omega)
        have q3 := p4 3 (by omega)
        have s1 := p5 1 (by omega) (by omega)
        obtain ⟨Q, w1, w2, w3, w4, w5, w6⟩ := tmX5_take hN (s := tm_sh d1 1) v1 (by show d1 1 2 = _; rw [q1]; exact x1) (fun j hj => by show d1 2 j = _; rw [q2]; exact x6 j hj) (fun j hj0 hj => by show d1 3 j = _; rw [q3]; exact x7 j hj0 hj) (by show d1 3 0 = _; rw [q3]; exact x8) hi0 hi
        obtain ⟨w, v, u1, u2, u3, u4, u5, u6, u7, u8⟩ := tmX8_take hN (s := e1) v1 (by rw [s1]; exact m1) (by rw [s1]; exact m6) (by rw [s1]; exact m7) (by rw [s1]; exact m8) hi0 hi
        have j1 : tm_ins d1 1 3 Q 1 = Q 0 := tm_inE (o := 1) (x := 0) (by omega)
        have j2 : tm_ins d1 1 3 Q 2 = Q 1 := tm_inE (o := 1) (x := 1) (by omega)
        have j3 : tm_ins d1 1 3 Q 3 = Q 2 := tm_inE (o := 1) (x := 2) (by omega)
        have z0 : ∀ k, k ≠ 2 → tm_ins d1 1 3 Q 1 k = d 1 k := fun k hk => by rw [j1, w3 k hk]; show d1 1 k = _; rw [q1]
        obtain ⟨T, d3, r', hb', t1, t2, t3⟩ := tm_fin hN h p3 p4 p5 (d2 := tm_ins d1 1 3 Q) (e2 := v.2) (fun c hc => tm_inN (by omega)) u3 (n' := n - 1) (own' := fun j => own (tm_ph i j)) (par' := fun j => tm_ps i (par (tm_ph i j))) (dep' := fun j => dep (tm_ph i j)) (W' := W) (H' := H) (pad' := pad) (md' := md) ⟨tm_tree_rm v1 hi0 hi hc, fun j hj => v2 _ (tm_ph_in hj), v3⟩ (tm_mkX (by rw [j1]; exact w2) (by rw [z0 3 (by omega)]; exact x2) (by rw [z0 4 (by omega)]; exact x3) (by rw [z0 5 (by omega)]; exact x4) (by rw [z0 6 (by omega)]; exact x5) (fun j hj => by rw [j2]; exact w4 j hj) (fun j hj0 hj => by rw [j3]; exact w5 j hj0 hj) (by rw [j3]; exact w6)) ⟨u4, by rw [u5 1 (by omega) (by omega), s1]; exact m2, by rw [u5 2 (by omega) (by omega), s1]; exact m3, by rw [u5 3 (by omega) (by omega), s1]; exact m4, by rw [u5 4 (by omega) (by omega), s1]; exact m5, u6, u7, u8⟩
        have k1 := (tm_J_x t3).1
        rw [p1, p2]
        simp only [Option.bind_some, tm_nm]
        rw [pd, w1]
        simp only [Option.bind_some]
        rw [t1]
        simp only [Option.bind_some]
        rw [s1] at u1
        rw [t2, k1, show (0 : Int32).toNatClampNeg = 0 from rfl, s1, m1, u1]
        simp only [Option.bind_some]
        rw [show ((0 : Int32), w.2) = (nI 0, w.2) from rfl, u2]
        simp only [Option.bind_some]
        rw [u4]
        exact ⟨_, _, _, rfl, rfl, tm_J_I t3 g⟩
      · rw [if_neg hc, if_pos tm_00, if_neg (nI_nle (by omega) (by omega))]
        exact tm_fin3 N g h
  · rw [a1, a2]
    simp only [Option.bind_some]
    rw [if_pos trivial, if_pos trivial]
    exact tm_fin2 N g h
theorem tm_s22 {N : Nat} (hN : 300 ≤ N) : tm_S22 N tm_Inv := by
  intro d e g hI
  obtain ⟨n, own, par, dep, W, H, pad, md, r, hb, h⟩ := hI
  obtain ⟨nx, ct, a1, a2, a3, a4, a5, a6⟩ := h.2.2.2.2.2.2
  simp only [fX7_undo, fX8_undo]
  rw [a4, a5]
  by_cases hc : ct = 0
  · rw [hc, if_neg (show ¬ (0 : Int32) < nI 0 from by decide +kernel), if_pos nI_0]
    exact tm_fin3 N g h
  · obtain ⟨ct, rfl⟩ : ∃ c, ct = c + 1 := ⟨ct - 1, by omega⟩
    rw [if_pos (show (0 : Int32) < nI (ct + 1) from nI_lt (a := 0) (by omega) (by omega)), if_neg (nI_ne0 (by omega) (by omega))]
    obtain ⟨t, c, p1, p2, p3, p4, p5⟩ := tmX6_pop N (P := tm_sh d 30) (s := tm_sh d 1) a1 (show ct < 4 by omega) a3 a4
    obtain ⟨c', k0, k1, k2, k3⟩ := tmX5_copy N (tm_sh d 1) (tm_sh t (2 + 3 * ((nx + 3) % 4)))
    have hcc : c' = c := Option.some.inj (k0.symm.trans p2)
    subst hcc
    have hm : (nx + 3) % 4 < 4 := Nat.mod_lt _ (by decide)
    generalize hE0 : tm_upk e 0 2 (nI (ct + 1) - 1) = e0
    have z0 : e0 0 2 = nI ct := by rw [← hE0, tm_ukE]; exact nI_pred ct
    have zc : ∀ c, c ≠ 0 → e0 c = e c := fun c hc => by rw [← hE0, tm_ukN hc]
    obtain ⟨w, w1, w2, w3⟩ := tmX8_u26 hN (show ct < 4 by omega) z0
    obtain ⟨n', own', par', dep', W', H', pad', md', b1, b2, b3⟩ := a6 ct (by omega)
    rw [show (nx + 4 - (ct + 1) + ct) % 4 = (nx + 3) % 4 by omega] at b2
    generalize hD2 : tm_ins (tm_ins d 30 14 t) 1 3 c' = d2
    have y30 : d2 30 = t 0 := by
      rw [← hD2, tm_inN (by omega)]
      exact tm_inE (o := 30) (x := 0) (by omega)
    have ys : ∀ c, 32 ≤ c → c < 44 → d2 c = d c := fun c h1 h2 => by
      rw [← hD2, tm_inN (by omega), show c = 30 + (c - 30) by omega, tm_inE (by omega), p5 _ (by omega)]
      show d (c - 30 + 30) = _
      rw [show c - 30 + 30 = 30 + (c - 30) by omega]
    have y0 : d2 0 = d 0 := by rw [← hD2, tm_inN (by omega), tm_inN (by omega)]
    have yx : ∀ x, x < 3 → tm_sh d2 1 x = c' x := fun x hx => by
      show d2 (x + 1) = _
      rw [← hD2, Nat.add_comm, tm_inE hx]
    have hX : tm_stX (tm_sh d2 1) n' own' par' W' H' pad' md' := by
      refine tm_stX_c (tm_stX_k b1.1.2.1 (s := tm_sh d (32 + 3 * ((nx + 3) % 4))) b2 ?_ ?_ ?_) (yx 0 (by omega)) (yx 1 (by omega)) (yx 2 (by omega))
      · intro k h2 h6
        rw [k1 k h2 h6]
        show t (0 + (2 + 3 * ((nx + 3) % 4))) k = d (0 + (32 + 3 * ((nx + 3) % 4))) k
        rw [p5 _ (by omega)]
        show d (0 + (2 + 3 * ((nx + 3) % 4)) + 30) k = _
        rw [show 0 + (2 + 3 * ((nx + 3) % 4)) + 30 = 0 + (32 + 3 * ((nx + 3) % 4)) by omega]
      · intro i hi
        rw [k2 i hi]
        show t (1 + (2 + 3 * ((nx + 3) % 4))) i = d (1 + (32 + 3 * ((nx + 3) % 4))) i
        rw [p5 _ (by omega)]
        show d (1 + (2 + 3 * ((nx + 3) % 4)) + 30) i = _
        rw [show 1 + (2 + 3 * ((nx + 3) % 4)) + 30 = 1 + (32 + 3 * ((nx + 3) % 4)) by omega]
      · intro i hi
        rw [k3 i hi]
        show t (2 + (2 + 3 * ((nx + 3) % 4))) i = d (2 + (32 + 3 * ((nx + 3) % 4))) i
        rw [p5 _ (by omega)]
        show d (2 + (2 + 3 * ((nx + 3) % 4)) + 30) i = _
        rw [show 2 + (2 + 3 * ((nx + 3) % 4)) + 30 = 2 + (32 + 3 * ((nx + 3) % 4)) by omega]
    have hR : tm_stR (w.2 1) n' own' par' W' H' pad' md' := tm_stR_c b1.1.2.1 b3 (fun k hk => by rw [w3 k hk, zc 2 (by omega)])
    have her : tm_err d2 w.2 := by
      unfold tm_err
      rw [y0, w2 3 (by omega), zc 3 (by omega)]
      exact h.2.2.2.2.2.1
    have hri : tm_ring d2 w.2 := by
      refine ⟨(nx + 3) % 4, ct, hm, by omega, by rw [y30]; exact p3, by rw [y30]; exact p4, by rw [w2 0 (by omega)]; exact z0, fun j hj => ?_⟩
      rw [show ((nx + 3) % 4 + 4 - ct + j) % 4 = (nx + 4 - (ct + 1) + j) % 4 by omega]
      have hm2 : (nx + 4 - (ct + 1) + j) % 4 < 4 := Nat.mod_lt _ (by decide)
      have ce : ∀ x, x < 3 → tm_sh d2 (32 + 3 * ((nx + 4 - (ct + 1) + j) % 4)) x = tm_sh d (32 + 3 * ((nx + 4 - (ct + 1) + j) % 4)) x := fun x hx => ys (x + (32 + 3 * ((nx + 4 - (ct + 1) + j) % 4))) (by omega) (by omega)
      exact tm_sim_c (a6 j (by omega)) (ce 0 (by omega)) (ce 1 (by omega)) (ce 2 (by omega)) (fun k hk => by rw [w2 2 (by omega), zc 2 (by omega)])
    obtain ⟨T, r', hb', t1, t2⟩ := tm_arr hN b1 hX hR her hri
    have y5 : tm_ins d2 4 26 T 30 2 = nI ct := by rw [tm_inN (by omega), y30]; exact p4
    rw [p1]
    simp only [Option.bind_some, tm_nm]
    rw [hD2, t1]
    simp only [Option.bind_some]
    rw [y5, show ((0 : Int32), e0) = (nI 0, e0) from rfl, w1]
    simp only [Option.bind_some]
    rw [w2 0 (by omega), z0]
    exact ⟨_, _, _, rfl, rfl, tm_J_I t2 g⟩
