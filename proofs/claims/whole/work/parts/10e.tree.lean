/-! the calls that change the tree: a node more, another parent -/
variable {n W H pad md : Nat} {own par dep : Nat → Nat} {r : Nat → tm_R} {hb : Nat → Bool} {d e d' e' : tm_M}
theorem tm_tree_add (ht : tm_tree n par dep) (hn : n < 24) {p : Nat} (hp : p < n) : tm_tree (n + 1) (tm_nu par n p) (tm_nu dep n (dep p + 1)) := by
  obtain ⟨h1, h2, h3, h4⟩ := ht
  refine ⟨by omega, by omega, by rw [tm_nuN (by omega)]; exact h3, fun i hi0 hi => ?_⟩
  by_cases ei : i = n
  · subst ei
    rw [tm_nuE, tm_nuE, tm_nuN (by omega)]
    exact ⟨by omega, rfl⟩
  · obtain ⟨a, b⟩ := h4 i hi0 (by omega)
    rw [tm_nuN ei, tm_nuN ei, tm_nuN (by omega)]
    exact ⟨by omega, b⟩
theorem tmX5_app (N : Nat) {s : tm_M} (hn : n < 24) (h : s 0 2 = nI n) (a b : Int32) : ∃ q, fX5_append N s a b = some q ∧ q 0 2 = nI (n + 1) ∧ (∀ k, k ≠ 2 → q 0 k = s 0 k) ∧ q 1 = upd (s 1) n b ∧ q 2 = upd (s 2) n a := by
  simp only [fX5_append, tm_nm]
  rw [h, if_neg (show ¬ (24 : Int32) ≤ nI n from nI_ge (b := 24) hn (by decide)), tm_gT (tm_inbN hn (by decide)), nI_clamp (show n < 2 ^ 31 by omega), tm_ucN (show 0 ≠ 1 by decide), h, tm_gT (tm_inbN hn (by decide)), nI_clamp (show n < 2 ^ 31 by omega)]
  refine ⟨_, rfl, ?_, fun k hk => ?_, ?_, ?_⟩
  · rw [tm_ukE, tm_ucN (show 0 ≠ 2 by decide), tm_ucN (show 0 ≠ 1 by decide), h, nI_1]
  · rw [tm_ukF hk, tm_ucN (show 0 ≠ 2 by decide), tm_ucN (show 0 ≠ 1 by decide)]
  · rw [tm_ukN (show 1 ≠ 0 by decide), tm_ucN (show 1 ≠ 2 by decide), tm_ucE]
  · rw [tm_ukN (show 2 ≠ 0 by decide), tm_ucE, tm_ucN (show 2 ≠ 1 by decide)]
theorem tm_s0 {N : Nat} (hN : 300 ≤ N) : tm_S0 N tm_Inv := by
  intro d e g a b hI
  obtain ⟨n, own, par, dep, W, H, pad, md, r, hb, h⟩ := hI
  have hn1 := h.1.1.1
  have hn24 := h.1.1.2.1
  obtain ⟨x1, x2, x3, x4, x5, x6, x7, x8⟩ := tm_J_x h
  obtain ⟨m1, m2, m3, m4, m5, m6, m7, m8⟩ := tm_J_m h
  simp only [fX7_addNode, fX8_addNode]
  rcases tm_has N g h a with ⟨i, hi, ea, a1, a2⟩ | ⟨a1, a2⟩
  · rw [a1, a2]
    simp only [Option.bind_some]
    rw [if_neg tm_10, if_neg tm_10]
    rcases tm_siz N b with ⟨k, hk1, hk2, eb, b1, b2⟩ | ⟨b1, b2⟩
    · rw [b1, b2]
      simp only [Option.bind_some]
      rw [if_neg tm_10, if_neg tm_10, show (0 : Int32).toNatClampNeg = 0 from rfl, x1, m1]
      by_cases hfull : n < 24
      · rw [if_pos (show nI n < (24 : Int32) from nI_lt (b := 24) hfull (by decide)), if_neg (show ¬ nI n = (24 : Int32) from fun q => by rw [show (24 : Int32) = nI 24 from rfl, nI_eq (by omega) (by omega)] at q; omega)]
        obtain ⟨t, d1, e1, p1, pd, p2, p3, p4, p5⟩ := tm_push1 hN g h
        subst ea eb
        have q1 := p4 1 (by omega)
        have q2 := p4 2 (by omega)
        have q3 := p4 3 (by omega)
        have s1 := p5 1 (by omega) (by omega)
        obtain ⟨v1, v2, v3⟩ := h.1
        obtain ⟨Q, w1, w2, w3, w4, w5⟩ := tmX5_app N (s := tm_sh d1 1) hfull (by show d1 1 2 = _; rw [q1]; exact x1) (nI i) (nI k)
        have j1 : tm_ins d1 1 3 Q 1 = Q 0 := tm_inE (o := 1) (x := 0) (by omega)
        have j2 : tm_ins d1 1 3 Q 2 = Q 1 := tm_inE (o := 1) (x := 1) (by omega)
        have j3 : tm_ins d1 1 3 Q 3 = Q 2 := tm_inE (o := 1) (x := 2) (by omega)
        have z0 : ∀ k, k ≠ 2 → tm_ins d1 1 3 Q 1 k = d 1 k := fun k hk => by rw [j1, w3 k hk]; show d1 1 k = _; rw [q1]
        have z2 : ∀ j, tm_ins d1 1 3 Q 2 j = if j = n then nI k else d 2 j := fun j => by
          rw [j2, w4]
          show upd (d1 2) n _ j = _
          rw [q2]
          rfl
        have z3 : ∀ j, tm_ins d1 1 3 Q 3 j = if j = n then nI i else d 3 j := fun j => by
          rw [j3, w5]
          show upd (d1 3) n _ j = _
          rw [q3]
          rfl
        generalize hE : tm_upc (tm_upc (tm_upc e1 1 (upd (e1 1) (5 + n) (nI k))) 1 (upd (tm_upc e1 1 (upd (e1 1) (5 + n) (nI k)) 1) (29 + n) (nI i))) 1 (upd (tm_upc (tm_upc e1 1 (upd (e1 1) (5 + n) (nI k))) 1 (upd (tm_upc e1 1 (upd (e1 1) (5 + n) (nI k)) 1) (29 + n) (nI i)) 1) 0 (nI n + 1)) = E
        have hEc : ∀ c, c ≠ 1 → E c = e1 c := fun c hc => by rw [← hE, tm_ucN hc, tm_ucN hc, tm_ucN hc]
        have hEm : ∀ m, E 1 m = if m = 0 then nI (n + 1) else if m = 29 + n then nI i else if m = 5 + n then nI k else e 1 m := fun m => by
          rw [← hE, tm_ucE, tm_ucE, tm_ucE]
          by_cases c0 : m = 0
          · rw [if_pos c0, c0, pk_us, nI_1]
          · rw [if_neg c0, pk_un c0]
            by_cases c1 : m = 29 + n
            · rw [if_pos c1, c1, pk_us]
            · rw [if_neg c1, pk_un c1]
              by_cases c2 : m = 5 + n
              · rw [if_pos c2, c2, pk_us]
              · rw [if_neg c2, pk_un c2, s1]
        obtain ⟨T, d3, r', hb', t1, t2, t3⟩ := tm_fin hN h p3 p4 p5 (d2 := tm_ins d1 1 3 Q) (e2 := E) (fun c hc => tm_inN (by omega)) hEc (n' := n + 1) (own' := tm_nu own n k) (par' := tm_nu par n i) (dep' := tm_nu dep n (dep i + 1)) (W' := W) (H' := H) (pad' := pad) (md' := md) ⟨tm_tree_add v1 hfull hi, fun j hj => by
            by_cases ej : j = n
            · rw [ej, tm_nuE]; omega
            · rw [tm_nuN ej]; exact v2 j (by omega), v3⟩ (tm_mkX (by rw [j1]; exact w2) (by rw [z0 3 (by omega)]; exact x2) (by rw [z0 4 (by omega)]; exact x3) (by rw [z0 5 (by omega)]; exact x4) (by rw [z0 6 (by omega)]; exact x5) (fun j hj => by
            rw [z2]
            by_cases ej : j = n
            · rw [if_pos ej, ej, tm_nuE]
            · rw [if_neg ej, tm_nuN ej]; exact x6 j (by omega)) (fun j h0 hj => by
            rw [z3]
            by_cases ej : j = n
            · rw [if_pos ej, ej, tm_nuE]
            · rw [if_neg ej, tm_nuN ej]; exact x7 j h0 (by omega)) (by rw [z3, if_neg (by omega)]; exact x8)) ⟨by rw [hEm, if_pos rfl], by rw [hEm, if_neg (by omega), if_neg (by omega), if_neg (by omega)]; exact m2, by rw [hEm, if_neg (by omega), if_neg (by omega), if_neg (by omega)]; exact m3, by rw [hEm, if_neg (by omega), if_neg (by omega), if_neg (by omega)]; exact m4, by rw [hEm, if_neg (by omega), if_neg (by omega), if_neg (by omega)]; exact m5, fun j hj => by
            rw [hEm, if_neg (by omega), if_neg (by omega)]
            by_cases ej : j = n
            · rw [if_pos (by omega), ej, tm_nuE]
            · rw [if_neg (by omega), tm_nuN ej]; exact m6 j (by omega), fun j h0 hj => by
            rw [hEm, if_neg (by omega)]
            by_cases ej : j = n
            · rw [if_pos (by omega), ej, tm_nuE]
            · rw [if_neg (by omega), if_neg (by omega), tm_nuN ej]; exact m7 j h0 (by omega), by rw [hEm, if_neg (by omega), if_neg (by omega), if_neg (by omega)]; exact m8⟩
        have k1 := (tm_J_x t3).1
        have k2 := (tm_J_m t3).1
        rw [p1, p2]
        simp only [Option.bind_some, tm_nm]
        rw [pd, w1, s1, m1, tm_5, tm_gT (tm_inbN (show 5 + n < 53 by omega) (by decide)), nI_clamp (show 5 + n < 2 ^ 31 by omega)]
        simp only [Option.bind_some]
        rw [t1]
        simp only [Option.bind_some]
        rw [t2, k1]
        have f1 : tm_upc e1 1 (upd (e 1) (5 + n) (nI k)) 1 0 = nI n := by rw [tm_ucE, pk_un (by omega)]; exact m1
        have f2 : tm_upc (tm_upc e1 1 (upd (e 1) (5 + n) (nI k))) 1 (upd (tm_upc e1 1 (upd (e 1) (5 + n) (nI k)) 1) (29 + n) (nI i)) 1 0 = nI n := by rw [tm_ucE, pk_un (by omega)]; exact f1
        rw [f1, tm_29, tm_gT (tm_inbN (show 29 + n < 53 by omega) (by decide)), nI_clamp (show 29 + n < 2 ^ 31 by omega), f2]
        rw [s1] at hE
        rw [hE, k2]
        exact ⟨_, _, _, rfl, rfl, tm_J_I t3 g⟩
      · have hn : n = 24 := by omega
        rw [if_neg (show ¬ nI n < (24 : Int32) from nI_nlt (b := 24) (by omega) (by omega)), if_pos (show nI n = (24 : Int32) from by rw [hn]; rfl)]
        exact tm_fin4 N g h
    · rw [b1, b2]
      simp only [Option.bind_some]
      rw [if_pos trivial, if_pos trivial]
      exact tm_fin2 N g h
  · rw [a1, a2]
    simp only [Option.bind_some]
    rw [if_pos trivial, if_pos trivial]
    exact tm_fin2 N g h
/-- the depths when i, with all under it, has moved to p -/
theorem tm_tree_mv (ht : tm_tree n par dep) {i p : Nat} (hi0 : i ≠ 0) (hi : i < n) (hp : p < n) (hu : ¬ tm_ud par dep p i = true) : tm_tree n (tm_nu par i p) (fun j => if tm_ud par dep j i = true then dep j - dep i + (dep p + 1) else dep j) := by
  have ht0 := ht
  obtain ⟨h1, h2, h3, h4⟩ := ht
  refine ⟨h1, h2, ?_, fun j hj0 hj => ?_⟩
  · show (if tm_ud par dep 0 i = true then _ else _) = 0
    rw [tm_ud_0 ht0, if_neg (by rw [decide_eq_true_eq]; omega)]
    exact h3
  · show tm_nu par i p j < n ∧ (if tm_ud par dep j i = true then _ else _) = (if tm_ud par dep (tm_nu par i p j) i = true then _ else _) + 1
    by_cases ej : j = i
    · subst ej
      rw [tm_nuE, if_pos (tm_ud_r ht0 hj), if_neg hu]
      exact ⟨hp, by omega⟩
    · obtain ⟨a, b⟩ := h4 j hj0 hj
      rw [tm_nuN ej, tm_ud_s ht0 hj0 hj, decide_eq_false ej, Bool.false_or]
      refine ⟨a, ?_⟩
      by_cases hq : tm_ud par dep (par j) i = true
      · have := tm_ud_dep ht0 _ (par j) i a rfl hq
        rw [if_pos hq, if_pos hq]
        omega
      · rw [if_neg hq, if_neg hq]
        exact b
theorem tmX5_hasT {N n j : Nat} {s : tm_M} (h1 : s 0 2 = nI n) (hn : n ≤ 24) (hj : j < n) : fX5_has N s (nI j) = some 1 := by
  simp only [fX5_has]
  rw [if_neg (nI_pos (by omega)), h1, if_neg (nI_ge hj (by omega))]
theorem tmX5_hasM {N : Nat} {s : tm_M} : fX5_has N s (-1) = some 0 := by
  simp only [fX5_has]
  rw [if_pos (show (-1 : Int32) < 0 from by decide)]
theorem tmX5_within {N : Nat} (hN : 300 ≤ N) {s : tm_M} (ht : tm_tree n par dep) (h1 : s 0 2 = nI n) (h7 : ∀ i, i ≠ 0 → i < n → s 2 i = nI (par i)) (h8 : s 2 0 = -1) {l i : Nat} (hl : l < n) (hi : i < 2 ^ 31) : fX5_isWithin N s (nI l) (nI i) = some (if tm_ud par dep l i = true then 1 else 0) := by
  have hn24 := ht.2.1
  have loop : ∀ k l j F, l < n → dep l = k → k + j < n → k + 1 < F → ∃ o, tm_whl (bX5_isWithin_5 N s (nI i)) F (nI l, nI j) = some o ∧ tm_two o (fun _ => some (0 : Int32)) (fun _ => some (1 : Int32)) = some (if tm_ud par dep l i = true then 1 else 0) := by
    intro k
    induction k with
    | zero =>
      intro l j F hl hk hj hF
      have h0 : l = 0 := by
        by_cases h0 : l = 0
        · exact h0
        · have := (ht.2.2.2 l h0 hl).2
          omega
      subst h0
      obtain ⟨F, rfl⟩ : ∃ F', F = F' + 2 := ⟨F - 2, by omega⟩
      rw [tm_ud_0 ht]
      by_cases e0 : 0 = i
      · subst e0
        refine ⟨.inr (nI 0, nI j), ?_, ?_⟩
        · have b1 : bX5_isWithin_5 N s (nI 0) (nI 0, nI j) = some (.inr (.inr (nI 0, nI j))) := by
            simp only [bX5_isWithin_5]
            rw [if_neg (show ¬ (24 : Int32) ≤ nI j from nI_ge (b := 24) (by omega) (by decide)), tmX5_hasT h1 hn24 hl]
            simp only [Option.bind_some]
            first | rw [if_neg tm_10, if_pos trivial] | rw [if_neg tm_10, if_pos rfl] | rw [if_neg tm_10]
          simp only [tm_whl, b1, Option.bind_some]
        · rw [decide_eq_true rfl]
          rfl
      · refine ⟨.inl (-1, nI (j + 1)), ?_, ?_⟩
        · have b1 : bX5_isWithin_5 N s (nI i) (nI 0, nI j) = some (.inl (-1, nI (j + 1))) := by
            simp only [bX5_isWithin_5]
            rw [if_neg (show ¬ (24 : Int32) ≤ nI j from nI_ge (b := 24) (by omega) (by decide)), tmX5_hasT h1 hn24 hl]
            simp only [Option.bind_some]
            rw [if_neg tm_10, if_neg (by rw [nI_eq (by decide) hi]; exact e0), tm_gT (tm_inbN (show 0 < 24 by decide) (by decide)), nI_clamp (by decide)]
            simp only [tm_nm]
            rw [h8, nI_1]
          have b2 : bX5_isWithin_5 N s (nI i) (-1, nI (j + 1)) = some (.inr (.inl (-1, nI (j + 1)))) := by
            simp only [bX5_isWithin_5]
            by_cases hj24 : j + 1 < 24
            · rw [if_neg (show ¬ (24 : Int32) ≤ nI (j + 1) from nI_ge (b := 24) hj24 (by decide)), tmX5_hasM]
              simp only [Option.bind_some]
              first | rw [if_pos trivial] | rw [if_pos tm_00] | rfl
            · rw [if_pos (show (24 : Int32) ≤ nI (j + 1) from nI_le (a := 24) (by omega) (by omega))]
          simp only [tm_whl, b1, Option.bind_some, b2]
        · rw [decide_eq_false e0]
          rfl
    | succ k ih =>
      intro l j F hl hk hj hF
      have h0 : l ≠ 0 := fun q => by
        rw [q, ht.2.2.1] at hk
        omega
      obtain ⟨hp, hd⟩ := ht.2.2.2 l h0 hl
      obtain ⟨F, rfl⟩ : ∃ F', F = F' + 1 := ⟨F - 1, by omega⟩
      rw [tm_ud_s ht h0 hl]
      by_cases el : l = i
      · subst el
        refine ⟨.inr (nI l, nI j), ?_, ?_⟩
        · have b1 : bX5_isWithin_5 N s (nI l) (nI l, nI j) = some (.inr (.inr (nI l, nI j))) := by
            simp only [bX5_isWithin_5]
            rw [if_neg (show ¬ (24 : Int32) ≤ nI j from nI_ge (b := 24) (by omega) (by decide)), tmX5_hasT h1 hn24 hl]
            simp only [Option.bind_some]
            first | rw [if_neg tm_10, if_pos trivial] | rw [if_neg tm_10, if_pos rfl] | rw [if_neg tm_10]
          simp only [tm_whl, b1, Option.bind_some]
        · rw [decide_eq_true rfl]
          rfl
      · have b1 : bX5_isWithin_5 N s (nI i) (nI l, nI j) = some (.inl (nI (par l), nI (j + 1))) := by
          simp only [bX5_isWithin_5]
          rw [if_neg (show ¬ (24 : Int32) ≤ nI j from nI_ge (b := 24) (by omega) (by decide)), tmX5_hasT h1 hn24 hl]
          simp only [Option.bind_some]
          rw [if_neg tm_10, if_neg (by rw [nI_eq (by omega) hi]; exact el), tm_gT (tm_inbN (show l < 24 by omega) (by decide)), nI_clamp (show l < 2 ^ 31 by omega)]
          simp only [tm_nm]
          rw [h7 l h0 hl, nI_1]
        simp only [tm_whl, b1, Option.bind_some]
        rw [decide_eq_false el, Bool.false_or]
        exact ih (par l) (j + 1) F hp (by omega) (by omega) (by omega)
  obtain ⟨o, o1, o2⟩ := loop (dep l) l 0 N hl rfl (by have := tm_dep_lt ht hl; omega) (by have := tm_dep_lt ht hl; omega)
  simp only [fX5_isWithin]
  rw [show (nI l, (0 : Int32)) = (nI l, nI 0) from rfl, o1]
  exact o2
theorem tm_s3 {N : Nat} (hN : 300 ≤ N) : tm_S3 N tm_Inv := by
  intro d e g a b hI
  obtain ⟨n, own, par, dep, W, H, pad, md, r, hb, h⟩ := hI
  have hn1 := h.1.1.1
  have hn24 := h.1.1.2.1
  obtain ⟨x1, x2, x3, x4, x5, x6, x7, x8⟩ := tm_J_x h
  obtain ⟨m1, m2, m3, m4, m5, m6, m7, m8⟩ := tm_J_m h
  obtain ⟨v1, v2, v3⟩ := h.1
  simp only [fX7_setParent, fX8_setParent]
  rcases tm_has N g h a with ⟨i, hi, ea, a1, a2⟩ | ⟨a1, a2⟩
  · rw [a1, a2]
    simp only [Option.bind_some]
    rw [if_neg tm_10, if_neg tm_10]
    rcases tm_has N g h b with ⟨p, hp, eb, b1, b2⟩ | ⟨b1, b2⟩
    · rw [b1, b2]
      simp only [Option.bind_some]
      rw [if_neg tm_10, if_neg tm_10]
      by_cases h0 : a = 0
      · rw [if_pos h0, if_pos h0]
        exact tm_fin3 N g h
      · rw [if_neg h0, if_neg h0]
        subst ea eb
        have hi0 : i ≠ 0 := fun q => h0 (by rw [q]; exact nI_0)
        rw [tmX5_within hN v1 (s := tm_sh d 1) x1 x7 x8 hp (show i < 2 ^ 31 by omega), tmX8_ud hN v1 m7 m8 hp (show i < 2 ^ 31 by omega)]
        simp only [Option.bind_some]
        by_cases hu : tm_ud par dep p i = true
        · rw [if_pos hu, if_neg tm_10, if_neg tm_10]
          exact tm_fin3 N g h
        · rw [if_neg hu, if_pos tm_00, if_pos tm_00]
          obtain ⟨t, d1, e1, p1, pd, p2, p3, p4, p5⟩ := tm_push1 hN g h
          have q1 := p4 1 (by omega)
          have q2 := p4 2 (by omega)
          have q3 := p4 3 (by omega)
          have s1 := p5 1 (by omega) (by omega)
          obtain ⟨T, d3, r', hb', t1, t2, t3⟩ := tm_fin hN h p3 p4 p5 (d2 := tm_upc d1 3 (upd (d1 3) i (nI p))) (e2 := tm_upc e1 1 (upd (e1 1) (29 + i) (nI p))) (fun c hc => tm_ucN (by omega)) (fun c hc => tm_ucN hc) (n' := n) (own' := own) (par' := tm_nu par i p) (dep' := fun j => if tm_ud par dep j i = true then dep j - dep i + (dep p + 1) else dep j) (W' := W) (H' := H) (pad' := pad) (md' := md) ⟨tm_tree_mv v1 hi0 hi hp hu, v2, v3⟩ (tm_mkX (by rw [tm_ucN (by decide), q1]; exact x1) (by rw [tm_ucN (by decide), q1]; exact x2) (by rw [tm_ucN (by decide), q1]; exact x3) (by rw [tm_ucN (by decide), q1]; exact x4) (by rw [tm_ucN (by decide), q1]; exact x5) (fun j hj => by rw [tm_ucN (by decide), q2]; exact x6 j hj) (fun j h0 hj => by
              rw [tm_ucE]
              by_cases ej : j = i
              · rw [ej, pk_us, tm_nuE]
              · rw [pk_un ej, tm_nuN ej, q3]; exact x7 j h0 hj) (by rw [tm_ucE, pk_un (by omega), q3]; exact x8)) ⟨by rw [tm_ucE, pk_un (by omega), s1]; exact m1, by rw [tm_ucE, pk_un (by omega), s1]; exact m2, by rw [tm_ucE, pk_un (by omega), s1]; exact m3, by rw [tm_ucE, pk_un (by omega), s1]; exact m4, by rw [tm_ucE, pk_un (by omega), s1]; exact m5, fun j hj => by rw [tm_ucE, pk_un (by omega), s1]; exact m6 j hj, fun j h0 hj => by
              rw [tm_ucE]
              by_cases ej : j = i
              · rw [ej, pk_us, tm_nuE]
              · rw [pk_un (by omega), tm_nuN ej, s1]; exact m7 j h0 hj, by rw [tm_ucE, pk_un (by omega), s1]; exact m8⟩
          rw [p1]
          simp only [Option.bind_some, tm_nm, fX8_changes]
          rw [pd, tm_gT (tm_inbN (show i < 24 by omega) (by decide)), nI_clamp (show i < 2 ^ 31 by omega), p2]
          simp only [Option.bind_some]
          rw [tm_29, tm_gT (tm_inbN (show 29 + i < 53 by omega) (by decide)), nI_clamp (show 29 + i < 2 ^ 31 by omega), t1]
          simp only [Option.bind_some]
          rw [t2]
          exact ⟨_, _, _, rfl, by rw [s1, m7 i hi0 hi, q3, x7 i hi0 hi], tm_J_I t3 g⟩
    · rw [b1, b2]
      simp only [Option.bind_some]
      rw [if_pos trivial, if_pos trivial]
      exact tm_fin2 N g h
  · rw [a1, a2]
    simp only [Option.bind_some]
    rw [if_pos trivial, if_pos trivial]
    exact tm_fin2 N g h
