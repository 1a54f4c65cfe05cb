/-! the calls that set: own size, canvas, padding, mode -/
variable {n W H pad md : Nat} {own par dep : Nat → Nat} {r : Nat → tm_R} {hb : Nat → Bool} {d e d' e' : tm_M}
def tm_nu (f : Nat → Nat) (i v : Nat) : Nat → Nat := fun j => if j = i then v else f j
theorem tm_nuE (f : Nat → Nat) (i v : Nat) : tm_nu f i v i = v := if_pos rfl
theorem tm_nuN {f : Nat → Nat} {i v j : Nat} (h : j ≠ i) : tm_nu f i v j = f j := if_neg h
theorem tm_w0 (N : Nat) : fX8_within N 0 0 2 = some 1 := by
  unfold fX8_within
  rw [if_neg (by decide +kernel), if_neg (by decide +kernel)]
theorem tm_w1 (N : Nat) : fX8_within N 1 0 2 = some 1 := by
  unfold fX8_within
  rw [if_neg (by decide +kernel), if_neg (by decide +kernel)]
theorem tm_w2 (N : Nat) : fX8_within N 2 0 2 = some 1 := by
  unfold fX8_within
  rw [if_neg (by decide +kernel), if_neg (by decide +kernel)]
theorem tm_10 : ¬ (1 : Int32) = 0 := by decide +kernel
theorem tm_00 : (0 : Int32) = 0 := rfl
theorem tm_fin2 (N : Nat) (g : Int64) (h : tm_J d e n own par dep W H pad md r hb) : ∃ (x : Int32) (d' e' : tm_M), ((fX7_failInvalid N d).bind fun t => some (t.1, t.2)) = some (x, d') ∧ ((fX8_fails N e g (-2)).bind fun t => some (t.1, t.2)) = some (x, e') ∧ tm_Inv d' e' g := by
  obtain ⟨d', e', f1, f2, f3⟩ := tm_fail2 N g h
  exact ⟨-2, d', e', by rw [f1]; rfl, by rw [f2]; rfl, tm_J_I f3 g⟩
theorem tm_fin3 (N : Nat) (g : Int64) (h : tm_J d e n own par dep W H pad md r hb) : ∃ (x : Int32) (d' e' : tm_M), ((fX7_failRejected N d).bind fun t => some (t.1, t.2)) = some (x, d') ∧ ((fX8_fails N e g (-3)).bind fun t => some (t.1, t.2)) = some (x, e') ∧ tm_Inv d' e' g := by
  obtain ⟨d', e', f1, f2, f3⟩ := tm_fail3 N g h
  exact ⟨-3, d', e', by rw [f1]; rfl, by rw [f2]; rfl, tm_J_I f3 g⟩
theorem tm_fin4 (N : Nat) (g : Int64) (h : tm_J d e n own par dep W H pad md r hb) : ∃ (x : Int32) (d' e' : tm_M), ((fX7_failFull N d).bind fun t => some (t.1, t.2)) = some (x, d') ∧ ((fX8_fails N e g (-4)).bind fun t => some (t.1, t.2)) = some (x, e') ∧ tm_Inv d' e' g := by
  obtain ⟨d', e', f1, f2, f3⟩ := tm_fail4 N g h
  exact ⟨-4, d', e', by rw [f1]; rfl, by rw [f2]; rfl, tm_J_I f3 g⟩
theorem tm_siz (N : Nat) (a : Int32) : (∃ k, 1 ≤ k ∧ k ≤ 99 ∧ a = nI k ∧ fX7_isSize N a = some 1 ∧ fX8_within N a 1 99 = some 1) ∨ (fX7_isSize N a = some 0 ∧ fX8_within N a 1 99 = some 0) := by
  rcases tm_win N a 1 99 (by decide) (by decide) with ⟨k, h1, h2, h3, h4⟩ | h
  · exact Or.inl ⟨k, h1, h2, h3, h4, h4⟩
  · exact Or.inr ⟨h, h⟩
theorem tm_sid (N : Nat) (a : Int32) : (∃ k, 1 ≤ k ∧ k ≤ 200 ∧ a = nI k ∧ fX7_isSide N a = some 1 ∧ fX8_within N a 1 200 = some 1) ∨ (fX7_isSide N a = some 0 ∧ fX8_within N a 1 200 = some 0) := by
  rcases tm_win N a 1 200 (by decide) (by decide) with ⟨k, h1, h2, h3, h4⟩ | h
  · exact Or.inl ⟨k, h1, h2, h3, h4, h4⟩
  · exact Or.inr ⟨h, h⟩
theorem tm_push1 {N : Nat} (hN : 300 ≤ N) (g : Int64) (h : tm_J d e n own par dep W H pad md r hb) : ∃ t d1 e1, fX6_push N (tm_sh d 30) (tm_sh d 1) = some t ∧ tm_ins d 30 14 t = d1 ∧ fX8_saves N e g = some e1 ∧ tm_ring d1 e1 ∧ (∀ c, c < 30 → d1 c = d c) ∧ (∀ c, c ≠ 0 → c ≠ 2 → e1 c = e c) := by
  obtain ⟨t, e1, p1, p2, p3, p4, p5⟩ := tm_push hN g h
  exact ⟨t, _, e1, p1, rfl, p2, p3, p4, p5⟩
/-- a change is made: the layout is made anew -/
theorem tm_fin {N : Nat} (hN : 300 ≤ N) (h : tm_J d e n own par dep W H pad md r hb) {d1 e1 d2 e2 : tm_M} (hri : tm_ring d1 e1) (hd1 : ∀ c, c < 30 → d1 c = d c) (he1 : ∀ c, c ≠ 0 → c ≠ 2 → e1 c = e c) (hd2 : ∀ c, c = 0 ∨ 4 ≤ c → d2 c = d1 c) (he2 : ∀ c, c ≠ 1 → e2 c = e1 c) {n' W' H' pad' md' : Nat} {own' par' dep' : Nat → Nat} (hv : tm_stv n' own' par' dep' W' H' pad' md') (hX : tm_stX (tm_sh d2 1) n' own' par' W' H' pad' md') (hR : tm_stR (e2 1) n' own' par' W' H' pad' md') : ∃ t d3 r hb, fX1_arrange N (tm_sh d2 4) (tm_sh d2 1) = some t ∧ tm_ins d2 4 26 t = d3 ∧ tm_J d3 e2 n' own' par' dep' W' H' pad' md' r hb := by
  have her : tm_err d2 e2 := by
    unfold tm_err
    rw [hd2 0 (by omega), hd1 0 (by omega), he2 3 (by omega), he1 3 (by omega) (by omega)]
    exact h.2.2.2.2.2.1
  obtain ⟨t, r, hb, h1, h2⟩ := tm_arr hN hv hX hR her (tm_ring_c hri (by rw [hd2 30 (by omega)]) (by rw [hd2 30 (by omega)]) (fun c h1 h2 => hd2 c (by omega)) (by rw [he2 0 (by omega)]) (by rw [he2 2 (by omega)]))
  exact ⟨t, _, r, hb, h1, rfl, h2⟩
theorem tm_J_x (h : tm_J d e n own par dep W H pad md r hb) : d 1 2 = nI n ∧ d 1 3 = nI W ∧ d 1 4 = nI H ∧ d 1 5 = nI pad ∧ d 1 6 = nI md ∧ (∀ i, i < n → d 2 i = nI (own i)) ∧ (∀ i, i ≠ 0 → i < n → d 3 i = nI (par i)) ∧ d 3 0 = -1 := h.2.1
theorem tm_J_m (h : tm_J d e n own par dep W H pad md r hb) : e 1 0 = nI n ∧ e 1 1 = nI W ∧ e 1 2 = nI H ∧ e 1 3 = nI pad ∧ e 1 4 = nI md ∧ (∀ i, i < n → e 1 (5 + i) = nI (own i)) ∧ (∀ i, i ≠ 0 → i < n → e 1 (29 + i) = nI (par i)) ∧ e 1 29 = -1 := h.2.2.1
theorem tm_mkX (a1 : d 1 2 = nI n) (a2 : d 1 3 = nI W) (a3 : d 1 4 = nI H) (a4 : d 1 5 = nI pad) (a5 : d 1 6 = nI md) (a6 : ∀ i, i < n → d 2 i = nI (own i)) (a7 : ∀ i, i ≠ 0 → i < n → d 3 i = nI (par i)) (a8 : d 3 0 = -1) : tm_stX (tm_sh d 1) n own par W H pad md := ⟨a1, a2, a3, a4, a5, a6, a7, a8⟩
theorem tm_s1 {N : Nat} (hN : 300 ≤ N) : tm_S1 N tm_Inv := by
  intro d e g a b hI
  obtain ⟨n, own, par, dep, W, H, pad, md, r, hb, h⟩ := hI
  have hn24 := h.1.1.2.1
  simp only [fX7_setSize, fX8_setSize]
  rcases tm_has N g h a with ⟨i, hi, ea, a1, a2⟩ | ⟨a1, a2⟩
  · rw [a1, a2]
    simp only [Option.bind_some]
    rw [if_neg tm_10, if_neg tm_10]
    rcases tm_siz N b with ⟨k, hk1, hk2, eb, b1, b2⟩ | ⟨b1, b2⟩
    · rw [b1, b2]
      simp only [Option.bind_some]
      rw [if_neg tm_10, if_neg tm_10]
      obtain ⟨t, d1, e1, p1, pd, p2, p3, p4, p5⟩ := tm_push1 hN g h
      subst ea eb
      obtain ⟨x1, x2, x3, x4, x5, x6, x7, x8⟩ := tm_J_x h
      obtain ⟨m1, m2, m3, m4, m5, m6, m7, m8⟩ := tm_J_m h
      have q1 := p4 1 (by omega)
      have q2 := p4 2 (by omega)
      have q3 := p4 3 (by omega)
      have s1 := p5 1 (by omega) (by omega)
      obtain ⟨v1, v2, v3⟩ := h.1
      obtain ⟨T, d3, r', hb', t1, t2, t3⟩ := tm_fin hN h p3 p4 p5 (d2 := tm_upc d1 2 (upd (d1 2) i (nI k))) (e2 := tm_upc e1 1 (upd (e1 1) (5 + i) (nI k))) (fun c hc => tm_ucN (by omega)) (fun c hc => tm_ucN hc) (n' := n) (own' := tm_nu own i k) (par' := par) (dep' := dep) (W' := W) (H' := H) (pad' := pad) (md' := md) ⟨v1, fun j hj => by
          by_cases ej : j = i
          · rw [ej, tm_nuE]; omega
          · rw [tm_nuN ej]; exact v2 j hj, v3⟩ (tm_mkX (by rw [tm_ucN (by decide), q1]; exact x1) (by rw [tm_ucN (by decide), q1]; exact x2) (by rw [tm_ucN (by decide), q1]; exact x3) (by rw [tm_ucN (by decide), q1]; exact x4) (by rw [tm_ucN (by decide), q1]; exact x5) (fun j hj => by
          rw [tm_ucE]
          by_cases ej : j = i
          · rw [ej, pk_us, tm_nuE]
          · rw [pk_un ej, tm_nuN ej, q2]; exact x6 j hj) (fun j h0 hj => by rw [tm_ucN (by decide), q3]; exact x7 j h0 hj) (by rw [tm_ucN (by decide), q3]; exact x8)) ⟨by rw [tm_ucE, pk_un (by omega), s1]; exact m1, by rw [tm_ucE, pk_un (by omega), s1]; exact m2, by rw [tm_ucE, pk_un (by omega), s1]; exact m3, by rw [tm_ucE, pk_un (by omega), s1]; exact m4, by rw [tm_ucE, pk_un (by omega), s1]; exact m5, fun j hj => by
          rw [tm_ucE]
          by_cases ej : j = i
          · rw [ej, pk_us, tm_nuE]
          · rw [pk_un (by omega), tm_nuN ej, s1]; exact m6 j hj, fun j h0 hj => by rw [tm_ucE, pk_un (by omega), s1]; exact m7 j h0 hj, by rw [tm_ucE, pk_un (by omega), s1]; exact m8⟩
      rw [p1]
      simp only [Option.bind_some, tm_nm, fX8_changes]
      rw [pd, tm_gT (tm_inbN (show i < 24 by omega) (by decide)), nI_clamp (show i < 2 ^ 31 by omega), p2]
      simp only [Option.bind_some]
      rw [tm_5, tm_gT (tm_inbN (show 5 + i < 53 by omega) (by decide)), nI_clamp (show 5 + i < 2 ^ 31 by omega), t1]
      simp only [Option.bind_some]
      rw [t2]
      exact ⟨_, _, _, rfl, by rw [s1, m6 i hi, q2, x6 i hi], tm_J_I t3 g⟩
    · rw [b1, b2]
      simp only [Option.bind_some]
      rw [if_pos trivial, if_pos trivial]
      exact tm_fin2 N g h
  · rw [a1, a2]
    simp only [Option.bind_some]
    rw [if_pos trivial, if_pos trivial]
    exact tm_fin2 N g h
theorem tm_s4 {N : Nat} (hN : 300 ≤ N) : tm_S4 N tm_Inv := by
  intro d e g a b hI
  obtain ⟨n, own, par, dep, W, H, pad, md, r, hb, h⟩ := hI
  have hn24 := h.1.1.2.1
  simp only [fX7_setCanvas, fX8_setCanvas]
  rcases tm_sid N a with ⟨i, hi1, hi2, ea, a1, a2⟩ | ⟨a1, a2⟩
  · rw [a1, a2]
    simp only [Option.bind_some]
    rw [if_neg tm_10, if_neg tm_10]
    rcases tm_sid N b with ⟨k, hk1, hk2, eb, b1, b2⟩ | ⟨b1, b2⟩
    · rw [b1, b2]
      simp only [Option.bind_some]
      rw [if_neg tm_10, if_neg tm_10]
      obtain ⟨t, d1, e1, p1, pd, p2, p3, p4, p5⟩ := tm_push1 hN g h
      subst ea eb
      obtain ⟨x1, x2, x3, x4, x5, x6, x7, x8⟩ := tm_J_x h
      obtain ⟨m1, m2, m3, m4, m5, m6, m7, m8⟩ := tm_J_m h
      have q1 := p4 1 (by omega)
      have q2 := p4 2 (by omega)
      have q3 := p4 3 (by omega)
      have s1 := p5 1 (by omega) (by omega)
      obtain ⟨v1, v2, v3, v4, v5, v6⟩ := h.1
      have hE : ∀ m, tm_upc (tm_upc e1 1 (upd (e1 1) 1 (nI i))) 1 (upd ((tm_upc e1 1 (upd (e1 1) 1 (nI i))) 1) 2 (nI k)) 1 m = if m = 2 then nI k else if m = 1 then nI i else e 1 m := fun m => by
        rw [tm_ucE, tm_ucE]
        by_cases h2 : m = 2
        · rw [if_pos h2, h2, pk_us]
        · rw [if_neg h2, pk_un h2]
          by_cases h1 : m = 1
          · rw [if_pos h1, h1, pk_us]
          · rw [if_neg h1, pk_un h1, s1]
      obtain ⟨T, d3, r', hb', t1, t2, t3⟩ := tm_fin hN h p3 p4 p5 (d2 := tm_upk (tm_upk d1 1 3 (nI i)) 1 4 (nI k)) (e2 := tm_upc (tm_upc e1 1 (upd (e1 1) 1 (nI i))) 1 (upd ((tm_upc e1 1 (upd (e1 1) 1 (nI i))) 1) 2 (nI k))) (fun c hc => by rw [tm_ukN (by omega), tm_ukN (by omega)]) (fun c hc => by rw [tm_ucN hc, tm_ucN hc]) (n' := n) (own' := own) (par' := par) (dep' := dep) (W' := i) (H' := k) (pad' := pad) (md' := md) ⟨v1, v2, ⟨hi1, hi2⟩, ⟨hk1, hk2⟩, v5, v6⟩ (tm_mkX (by rw [tm_ukF (by decide), tm_ukF (by decide), q1]; exact x1) (by rw [tm_ukF (by decide), tm_ukE]) (by rw [tm_ukE]) (by rw [tm_ukF (by decide), tm_ukF (by decide), q1]; exact x4) (by rw [tm_ukF (by decide), tm_ukF (by decide), q1]; exact x5) (fun j hj => by rw [tm_ukN (by decide), tm_ukN (by decide), q2]; exact x6 j hj) (fun j h0 hj => by rw [tm_ukN (by decide), tm_ukN (by decide), q3]; exact x7 j h0 hj) (by rw [tm_ukN (by decide), tm_ukN (by decide), q3]; exact x8)) ⟨by rw [hE, if_neg (by omega), if_neg (by omega)]; exact m1, by rw [hE, if_neg (by omega), if_pos rfl], by rw [hE, if_pos rfl], by rw [hE, if_neg (by omega), if_neg (by omega)]; exact m4, by rw [hE, if_neg (by omega), if_neg (by omega)]; exact m5, fun j hj => by rw [hE, if_neg (by omega), if_neg (by omega)]; exact m6 j hj, fun j h0 hj => by rw [hE, if_neg (by omega), if_neg (by omega)]; exact m7 j h0 hj, by rw [hE, if_neg (by omega), if_neg (by omega)]; exact m8⟩
      rw [p1]
      simp only [Option.bind_some, tm_nm]
      rw [pd, p2]
      simp only [Option.bind_some]
      rw [show (1 : Int32).toNatClampNeg = 1 from rfl, show (2 : Int32).toNatClampNeg = 2 from rfl, t1]
      simp only [Option.bind_some]
      rw [t2]
      exact ⟨_, _, _, rfl, by rw [s1, m2, m3, q1, x2, x3], tm_J_I t3 g⟩
    · rw [b1, b2]
      simp only [Option.bind_some]
      rw [if_pos trivial, if_pos trivial]
      exact tm_fin2 N g h
  · rw [a1, a2]
    simp only [Option.bind_some]
    rw [if_pos trivial, if_pos trivial]
    exact tm_fin2 N g h
/-- padding or mode is set, in the reference's row at 3 or 4 -/
theorem tm_setp {N : Nat} (hN : 300 ≤ N) (g : Int64) (h : tm_J d e n own par dep W H pad md r hb) {k : Nat} (hk : k ≤ 3) : ∃ x d3 e3, ((fX6_push N (tm_sh d 30) (tm_sh d 1)).bind fun t_4 => (tm_nm (tm_ins d 30 14 t_4) fun d0_5 => tm_nm (d0_5 1 5) fun x_6 => tm_nm (tm_upk d0_5 1 5 (nI k)) fun d0_7 => (fX1_arrange N (tm_sh d0_7 4) (tm_sh d0_7 1)).bind fun t_8 => (tm_nm (tm_ins d0_7 4 26 t_8) fun d0_9 => some (x_6, d0_9)))) = some (x, d3) ∧ ((fX8_changes N e g (3 : Int32) (nI k)).bind fun t_4 => (some (t_4.1, t_4.2))) = some (x, e3) ∧ tm_Inv d3 e3 g := by
  have hn24 := h.1.1.2.1
  obtain ⟨t, d1, e1, p1, pd, p2, p3, p4, p5⟩ := tm_push1 hN g h
  obtain ⟨x1, x2, x3, x4, x5, x6, x7, x8⟩ := tm_J_x h
  obtain ⟨m1, m2, m3, m4, m5, m6, m7, m8⟩ := tm_J_m h
  have q1 := p4 1 (by omega)
  have q2 := p4 2 (by omega)
  have q3 := p4 3 (by omega)
  have s1 := p5 1 (by omega) (by omega)
  obtain ⟨v1, v2, v3, v4, v5, v6⟩ := h.1
  obtain ⟨T, d3, r', hb', t1, t2, t3⟩ := tm_fin hN h p3 p4 p5 (d2 := tm_upk d1 1 5 (nI k)) (e2 := tm_upc e1 1 (upd (e1 1) 3 (nI k))) (fun c hc => tm_ukN (by omega)) (fun c hc => tm_ucN hc) (n' := n) (own' := own) (par' := par) (dep' := dep) (W' := W) (H' := H) (pad' := k) (md' := md) ⟨v1, v2, v3, v4, hk, v6⟩ (tm_mkX (by rw [tm_ukF (by decide), q1]; exact x1) (by rw [tm_ukF (by decide), q1]; exact x2) (by rw [tm_ukF (by decide), q1]; exact x3) (by rw [tm_ukE]) (by rw [tm_ukF (by decide), q1]; exact x5) (fun j hj => by rw [tm_ukN (by decide), q2]; exact x6 j hj) (fun j h0 hj => by rw [tm_ukN (by decide), q3]; exact x7 j h0 hj) (by rw [tm_ukN (by decide), q3]; exact x8)) ⟨by rw [tm_ucE, pk_un (by omega), s1]; exact m1, by rw [tm_ucE, pk_un (by omega), s1]; exact m2, by rw [tm_ucE, pk_un (by omega), s1]; exact m3, by rw [tm_ucE, pk_us], by rw [tm_ucE, pk_un (by omega), s1]; exact m5, fun j hj => by rw [tm_ucE, pk_un (by omega), s1]; exact m6 j hj, fun j h0 hj => by rw [tm_ucE, pk_un (by omega), s1]; exact m7 j h0 hj, by rw [tm_ucE, pk_un (by omega), s1]; exact m8⟩
  rw [p1]
  simp only [Option.bind_some, tm_nm, fX8_changes]
  rw [pd, p2]
  simp only [Option.bind_some]
  rw [show (3 : Int32).toNatClampNeg = 3 from rfl, show tm_inb (3 : Int32) 53 = true from by decide +kernel, t1]
  simp only [Option.bind_some]
  rw [t2]
  exact ⟨_, _, _, rfl, by rw [tm_gT rfl, q1, x4, s1, m4]; rfl, tm_J_I t3 g⟩
theorem tm_setm {N : Nat} (hN : 300 ≤ N) (g : Int64) (h : tm_J d e n own par dep W H pad md r hb) {k : Nat} (hk : k ≤ 2) : ∃ x d3 e3, ((fX6_push N (tm_sh d 30) (tm_sh d 1)).bind fun t_4 => (tm_nm (tm_ins d 30 14 t_4) fun d0_5 => tm_nm (d0_5 1 6) fun x_6 => tm_nm (tm_upk d0_5 1 6 (nI k)) fun d0_7 => (fX1_arrange N (tm_sh d0_7 4) (tm_sh d0_7 1)).bind fun t_8 => (tm_nm (tm_ins d0_7 4 26 t_8) fun d0_9 => some (x_6, d0_9)))) = some (x, d3) ∧ ((fX8_changes N e g (4 : Int32) (nI k)).bind fun t_4 => (some (t_4.1, t_4.2))) = some (x, e3) ∧ tm_Inv d3 e3 g := by
  have hn24 := h.1.1.2.1
  obtain ⟨t, d1, e1, p1, pd, p2, p3, p4, p5⟩ := tm_push1 hN g h
  obtain ⟨x1, x2, x3, x4, x5, x6, x7, x8⟩ := tm_J_x h
  obtain ⟨m1, m2, m3, m4, m5, m6, m7, m8⟩ := tm_J_m h
  have q1 := p4 1 (by omega)
  have q2 := p4 2 (by omega)
  have q3 := p4 3 (by omega)
  have s1 := p5 1 (by omega) (by omega)
  obtain ⟨v1, v2, v3, v4, v5, v6⟩ := h.1
  obtain ⟨T, d3, r', hb', t1, t2, t3⟩ := tm_fin hN h p3 p4 p5 (d2 := tm_upk d1 1 6 (nI k)) (e2 := tm_upc e1 1 (upd (e1 1) 4 (nI k))) (fun c hc => tm_ukN (by omega)) (fun c hc => tm_ucN hc) (n' := n) (own' := own) (par' := par) (dep' := dep) (W' := W) (H' := H) (pad' := pad) (md' := k) ⟨v1, v2, v3, v4, v5, hk⟩ (tm_mkX (by rw [tm_ukF (by decide), q1]; exact x1) (by rw [tm_ukF (by decide), q1]; exact x2) (by rw [tm_ukF (by decide), q1]; exact x3) (by rw [tm_ukF (by decide), q1]; exact x4) (by rw [tm_ukE]) (fun j hj => by rw [tm_ukN (by decide), q2]; exact x6 j hj) (fun j h0 hj => by rw [tm_ukN (by decide), q3]; exact x7 j h0 hj) (by rw [tm_ukN (by decide), q3]; exact x8)) ⟨by rw [tm_ucE, pk_un (by omega), s1]; exact m1, by rw [tm_ucE, pk_un (by omega), s1]; exact m2, by rw [tm_ucE, pk_un (by omega), s1]; exact m3, by rw [tm_ucE, pk_un (by omega), s1]; exact m4, by rw [tm_ucE, pk_us], fun j hj => by rw [tm_ucE, pk_un (by omega), s1]; exact m6 j hj, fun j h0 hj => by rw [tm_ucE, pk_un (by omega), s1]; exact m7 j h0 hj, by rw [tm_ucE, pk_un (by omega), s1]; exact m8⟩
  rw [p1]
  simp only [Option.bind_some, tm_nm, fX8_changes]
  rw [pd, p2]
  simp only [Option.bind_some]
  rw [show (4 : Int32).toNatClampNeg = 4 from rfl, show tm_inb (4 : Int32) 53 = true from by decide +kernel, t1]
  simp only [Option.bind_some]
  rw [t2]
  exact ⟨_, _, _, rfl, by rw [tm_gT rfl, q1, x5, s1, m5]; rfl, tm_J_I t3 g⟩
theorem tm_s5 {N : Nat} (hN : 300 ≤ N) : tm_S5 N tm_Inv := by
  intro d e g a hI
  obtain ⟨n, own, par, dep, W, H, pad, md, r, hb, h⟩ := hI
  simp only [fX7_setPadding, fX8_setPadding, fX8_within]
  by_cases h0 : a < 0
  · rw [if_pos h0, if_pos h0]
    simp only [Option.bind_some]
    rw [if_pos trivial]
    exact tm_fin2 N g h
  · by_cases h3 : a ≤ 3
    · obtain ⟨k, hk, ek⟩ := nI_of2 (M := 3) (n := 3) (by decide +kernel) h0 h3
      rw [if_neg h0, if_pos h3, if_neg h0, if_neg (Int32.not_lt.mpr h3)]
      simp only [Option.bind_some]
      rw [if_neg tm_10]
      subst ek
      exact tm_setp hN g h hk
    · rw [if_neg h0, if_neg h3, if_neg h0, if_pos (Int32.not_le.mp h3)]
      simp only [Option.bind_some]
      rw [if_pos trivial]
      exact tm_fin2 N g h
theorem tm_s6 {N : Nat} (hN : 300 ≤ N) : tm_S6 N tm_Inv := by
  intro d e g a hI
  obtain ⟨n, own, par, dep, W, H, pad, md, r, hb, h⟩ := hI
  simp only [fX7_setMode, fX8_setMode]
  by_cases h0 : a = 0
  · rw [if_pos h0, h0, tm_w0]
    simp only [Option.bind_some]
    rw [if_neg tm_10]
    exact tm_setm hN g h (k := 0) (by omega)
  · by_cases h1 : a = 1
    · rw [if_neg h0, if_pos h1, h1, tm_w1]
      simp only [Option.bind_some]
      rw [if_neg tm_10]
      exact tm_setm hN g h (k := 1) (by omega)
    · by_cases h2 : a = 2
      · rw [if_neg h0, if_neg h1, if_pos h2, h2, tm_w2]
        simp only [Option.bind_some]
        rw [if_neg tm_10]
        exact tm_setm hN g h (k := 2) (by omega)
      · have hw : fX8_within N a 0 2 = some 0 := by
          rcases tm_win N a 0 2 (by decide) (by decide) with ⟨k, k1, k2, k3, k4⟩ | hw
          · rcases (show k = 0 ∨ k = 1 ∨ k = 2 by omega) with rfl | rfl | rfl
            · exact absurd k3 h0
            · exact absurd k3 h1
            · exact absurd k3 h2
          · exact hw
        rw [if_neg h0, if_neg h1, if_neg h2, hw]
        simp only [Option.bind_some]
        rw [if_pos trivial]
        exact tm_fin2 N g h
