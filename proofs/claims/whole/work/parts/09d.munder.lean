theorem tm_bs {α : Type} (o : Option α) : (o.bind fun t => some t) = o := by cases o <;> rfl
theorem tmX8_under {N : Nat} (hN : 300 ≤ N) {e : tm_M} {g0 : Int64} {n W H pad md p : Nat} {own par dep : Nat → Nat} {rp : tm_R} {hbp : Bool} (hv : tm_stv n own par dep W H pad md) (hs : tm_stM e n own par W H pad md) (hsz : ∀ i, i < n → e 11 i = nI (tm_sz n own par dep i)) (hp : p < n) (hm0 : tm_cc par p n ≠ 0) (hr : tm_at4 (e 6) (e 7) (e 8) (e 9) p rp) (hrw : rp.2.2.1 ≤ 200) (hrh : rp.2.2.2 ≤ 200) (hh : e 10 p = if hbp = true then 1 else 0) (hz0 : hbp = true → rp = (0, 0, 0, 0)) :
    ∃ e', fX8_laysUnder N e g0 (nI p) (nI (dep p)) = some e' ∧ (∀ c, c = 1 ∨ c = 2 ∨ c = 3 ∨ c = 11 ∨ 15 ≤ c → e' c = e c) ∧ (∀ k, k ≠ 13 → e' 0 k = e 0 k) ∧ (∀ i, (∀ j, j < tm_cc par p n → tm_kd par p n j ≠ i) → e' 10 i = e 10 i ∧ e' 6 i = e 6 i ∧ e' 7 i = e 7 i ∧ e' 8 i = e 8 i ∧ e' 9 i = e 9 i) ∧
      ∀ r0 : Nat → tm_R, ∀ hb0 : Nat → Bool, ∃ r hb, (∀ i, (∀ j, j < tm_cc par p n → tm_kd par p n j ≠ i) → r i = r0 i ∧ hb i = hb0 i) ∧ (∀ j, j < tm_cc par p n → tm_at4 (e' 6) (e' 7) (e' 8) (e' 9) (tm_kd par p n j) (r (tm_kd par p n j)) ∧ e' 10 (tm_kd par p n j) = if hb (tm_kd par p n j) = true then 1 else 0) ∧ tm_rec1 pad md (dep p) (tm_cc par p n) (tm_kd par p n) (tm_sz n own par dep) rp r hb := by
  obtain ⟨ht, hown, hW, hH, hpl, hmd⟩ := hv
  obtain ⟨s1, s2, s3, s4, s5, s6, s7, s8⟩ := hs
  have hn24 := ht.2.1
  have hok := tm_ok_kids ht hown hp hm0
  have hsum := tm_sz_kids (own := own) ht hp hm0
  obtain ⟨c0, l1, l2, l3, l4, l5⟩ := tmX8_ch (g0 := g0) hN ht s1 s7 s8 (show p < 2 ^ 31 by omega)
  have hcl := tm_cc_le (par := par) (p := p) n
  have hdl := tm_dep_lt ht hp
  generalize hm : tm_cc par p n = m at *
  generalize hkd : tm_kd par p n = kd at *
  generalize hSS : tm_sz n own par dep = S at *
  have hk2 : ∀ j, j < m → kd j < 24 := fun j hj => (hok.2.2.1 j hj).1
  have hinj : ∀ i j, i < m → j < m → kd i = kd j → i = j := hok.2.2.2.1
  have hkn : ∀ j, j < m → kd j < n := fun j hj => by
    rw [← hkd]
    exact (tm_kd_in n j (by rw [hm]; exact hj)).1
  have hS31 : ∀ j, j < m → S (kd j) < 2 ^ 31 := fun j hj => by
    have := tm_sz_le ht (fun i hi => (hown i hi).2) (kd j)
    rw [hSS] at this
    omega
  obtain ⟨x, y, w, h⟩ := rp
  obtain ⟨r1, r2, r3, r4⟩ := hr
  simp only at r1 r2 r3 r4 hrw hrh
  obtain ⟨iw1, iw2, iw3⟩ := tm_inner hrw hpl
  obtain ⟨ih1, ih2, ih3⟩ := tm_inner hrh hpl
  -- hidden or without room: all children are hidden
  have hid : (w ≤ 2 * pad ∨ h ≤ 2 * pad) → (∀ wv, tm_whl (bX8_laysUnder_92 N g0) N ((0 : Int32), c0) = some wv → fX8_laysUnder N e g0 (nI p) (nI (dep p)) = some wv.2) →
      ∃ e', fX8_laysUnder N e g0 (nI p) (nI (dep p)) = some e' ∧ (∀ c, c = 1 ∨ c = 2 ∨ c = 3 ∨ c = 11 ∨ 15 ≤ c → e' c = e c) ∧ (∀ k, k ≠ 13 → e' 0 k = e 0 k) ∧ (∀ i, (∀ j, j < m → kd j ≠ i) → e' 10 i = e 10 i ∧ e' 6 i = e 6 i ∧ e' 7 i = e 7 i ∧ e' 8 i = e 8 i ∧ e' 9 i = e 9 i) ∧
      ∀ r0 : Nat → tm_R, ∀ hb0 : Nat → Bool, ∃ r hb, (∀ i, (∀ j, j < m → kd j ≠ i) → r i = r0 i ∧ hb i = hb0 i) ∧ (∀ j, j < m → tm_at4 (e' 6) (e' 7) (e' 8) (e' 9) (kd j) (r (kd j)) ∧ e' 10 (kd j) = if hb (kd j) = true then 1 else 0) ∧ tm_rec1 pad md (dep p) m kd S (x, y, w, h) r hb := by
    intro hz hst
    obtain ⟨wv, w1, w2, w3, w4⟩ := tmX8_hide (g0 := g0) hN (show m ≤ 24 by omega) l2 (fun j hj => ⟨l3 j hj, hk2 j hj⟩) hinj
    refine ⟨wv.2, hst wv w1, ?_, ?_, ?_, ?_⟩
    · intro c hc
      rw [w2 c (by omega), l4 c (by omega) (by omega)]
    · intro k hk
      rw [w2 0 (by omega)]
      exact l5 k hk
    · intro i hi
      rw [w4 i hi, w4 i hi, w4 i hi, w4 i hi, w4 i hi, l4 10 (by omega) (by omega), l4 6 (by omega) (by omega), l4 7 (by omega) (by omega), l4 8 (by omega) (by omega), l4 9 (by omega) (by omega)]
      exact ⟨rfl, rfl, rfl, rfl, rfl⟩
    · intro r0 hb0
      refine ⟨fun i => if (∃ j, j < m ∧ kd j = i) then (0, 0, 0, 0) else r0 i, fun i => if (∃ j, j < m ∧ kd j = i) then true else hb0 i, ?_, ?_, ?_⟩
      · intro i hi
        have hne : ¬ ∃ j, j < m ∧ kd j = i := fun ⟨j, a, b⟩ => hi j a b
        simp only
        rw [if_neg hne, if_neg hne]
        exact ⟨rfl, rfl⟩
      · intro j hj
        have hex : ∃ t, t < m ∧ kd t = kd j := ⟨j, hj, rfl⟩
        have hbt : (if (∃ t, t < m ∧ kd t = kd j) then true else hb0 (kd j)) = true := if_pos hex
        simp only
        rw [if_pos hex, if_pos hbt]
        exact ⟨(w3 j hj).2, (w3 j hj).1⟩
      · refine ⟨fun _ j hj => ?_, fun hn => absurd hz hn⟩
        have hex : ∃ t, t < m ∧ kd t = kd j := ⟨j, hj, rfl⟩
        simp only
        rw [if_pos hex, if_pos hex]
        exact ⟨rfl, rfl⟩
  have e6 : c0 6 p = nI x := by rw [l4 6 (by omega) (by omega)]; exact r1
  have e7 : c0 7 p = nI y := by rw [l4 7 (by omega) (by omega)]; exact r2
  have e8 : c0 8 p = nI w := by rw [l4 8 (by omega) (by omega)]; exact r3
  have e9 : c0 9 p = nI h := by rw [l4 9 (by omega) (by omega)]; exact r4
  have e10 : c0 10 p = if hbp = true then 1 else 0 := by rw [l4 10 (by omega) (by omega)]; exact hh
  have e13 : c0 1 3 = nI pad := by rw [l4 1 (by omega) (by omega)]; exact s4
  have e14 : c0 1 4 = nI md := by rw [l4 1 (by omega) (by omega)]; exact s5
  cases hbp with
  | true =>
    have hz := hz0 rfl
    have hw0 : w = 0 := congrArg (fun q : tm_R => q.2.2.1) hz
    refine hid (by omega) (fun wv w1 => ?_)
    simp only [fX8_laysUnder, l1, Option.bind_some, tm_nm]
    rw [tm_gT (tm_inbN (by omega) (by decide)), nI_clamp (show p < 2 ^ 31 by omega), e10, if_pos rfl, if_neg (by decide), w1]
    rfl
  | false =>
    by_cases hz : w ≤ 2 * pad ∨ h ≤ 2 * pad
    · refine hid hz (fun wv w1 => ?_)
      simp only [fX8_laysUnder, l1, Option.bind_some, tm_nm]
      rw [tm_gT (tm_inbN (by omega) (by decide)), nI_clamp (show p < 2 ^ 31 by omega), e10, if_neg (show ¬ false = true by decide), if_pos rfl, show (3 : Int32).toNatClampNeg = 3 from rfl, e13, e8, e9]
      by_cases hw0 : w ≤ 2 * pad
      · rw [if_pos (iw1.mpr hw0), w1]
        rfl
      · rw [if_neg (fun q => hw0 (iw1.mp q)), if_neg (fun q => ih2.mp q (by omega)), w1]
        rfl
    · obtain ⟨wv, w1, w2, w3, w4⟩ := tmX8_show hN (show m ≤ 24 by omega) l2 (fun j hj => ⟨l3 j hj, hk2 j hj⟩)
      have hw1 : 1 ≤ w - 2 * pad ∧ w - 2 * pad ≤ 200 := by omega
      have hh1 : 1 ≤ h - 2 * pad ∧ h - 2 * pad ≤ 200 := by omega
      have hkM : tm_kidsM wv.2 m kd (fun j => S (kd j)) := ⟨by rw [w2 0 (by omega)]; exact l2, fun j hj => ⟨by rw [w2 12 (by omega)]; exact l3 j hj, by rw [w2 11 (by omega), l4 11 (by omega) (by omega)]; exact hsz _ (hkn j hj)⟩⟩
      have v14 : wv.2 1 4 = nI md := by rw [w2 1 (by omega)]; exact e14
      have v013 : wv.2 0 13 = nI m := hkM.1
      have v11 : wv.2 11 p = nI (tm_sum (fun j => S (kd j)) m) := by rw [w2 11 (by omega), l4 11 (by omega) (by omega), hsz p hp, hsum]
      have hst : fX8_laysUnder N e g0 (nI p) (nI (dep p)) = if md = 0 then (if dep p % 2 = 0 then fX8_laysRow N wv.2 g0 (nI 0) (nI m) (nI (x + pad)) (nI (y + pad)) (nI (w - 2 * pad)) (nI (h - 2 * pad)) 1 else fX8_laysRow N wv.2 g0 (nI 0) (nI m) (nI (x + pad)) (nI (y + pad)) (nI (w - 2 * pad)) (nI (h - 2 * pad)) 0) else (if md = 1 then fX8_laysStrips N wv.2 g0 (nI (x + pad)) (nI (y + pad)) (nI (w - 2 * pad)) (nI (h - 2 * pad)) (nI (tm_sum (fun j => S (kd j)) m)) else fX8_laysSquares N wv.2 g0 (nI (x + pad)) (nI (y + pad)) (nI (w - 2 * pad)) (nI (h - 2 * pad))) := by
        have hpar : nI (dep p) - nI (dep p) / 2 * 2 = nI (dep p % 2) := by
          have : nI (dep p) / 2 = nI (dep p / 2) := pk_div (by omega) (by decide) (by decide)
          rw [this, show nI (dep p / 2) * 2 = nI (dep p / 2 * 2) from pk_mul _ _, pk_sub (by omega)]
          congr 1
          omega
        simp only [fX8_laysUnder, l1, Option.bind_some, tm_nm]
        rw [tm_gT (tm_inbN (show p < 24 by omega) (by decide)), nI_clamp (show p < 2 ^ 31 by omega), e10, if_neg (show ¬ false = true by decide), if_pos rfl, show (3 : Int32).toNatClampNeg = 3 from rfl, show (4 : Int32).toNatClampNeg = 4 from rfl, e13, e6, e7, e8, e9, if_neg (fun q => hz (Or.inl (iw1.mp q))), if_pos (ih2.mpr (by omega)), w1]
        simp only [Option.bind_some]
        rw [v14, v013, v11, hpar, nI_add, nI_add, iw3 (by omega), ih3 (by omega), tm_gT (tm_inbN (show p < 24 by omega) (by decide)), show (0 : Int32) = nI 0 from rfl, show (1 : Int32) = nI 1 from rfl]
        by_cases e0 : md = 0
        · rw [if_pos e0, if_pos (by rw [e0])]
          by_cases ed : dep p % 2 = 0
          · rw [if_pos ed, if_pos (by rw [ed])]
            exact tm_bs _
          · rw [if_neg ed, if_neg (by rw [nI_eq (by omega) (by decide)]; exact ed)]
            exact tm_bs _
        · rw [if_neg e0, if_neg (by rw [nI_eq (by omega) (by decide)]; exact e0)]
          by_cases e1 : md = 1
          · rw [if_pos e1, if_pos (by rw [e1])]
            exact tm_bs _
          · rw [if_neg e1, if_neg (by rw [nI_eq (by omega) (by decide)]; exact e1)]
            exact tm_bs _
      have fin : ∀ (V : tm_M) (r : Nat → tm_R), fX8_laysUnder N e g0 (nI p) (nI (dep p)) = some V → (∀ c, c < 4 ∨ c = 10 ∨ c = 11 ∨ 15 ≤ c → V c = wv.2 c) → (∀ j, j < m → tm_at4 (V 6) (V 7) (V 8) (V 9) (kd j) (r (kd j))) → (∀ i, (∀ j, j < m → kd j ≠ i) → ∀ c, 6 ≤ c → c < 10 → V c i = wv.2 c i) → tm_plc md (dep p) m kd S (x + pad) (y + pad) (w - 2 * pad) (h - 2 * pad) r →
          ∃ e', fX8_laysUnder N e g0 (nI p) (nI (dep p)) = some e' ∧ (∀ c, c = 1 ∨ c = 2 ∨ c = 3 ∨ c = 11 ∨ 15 ≤ c → e' c = e c) ∧ (∀ k, k ≠ 13 → e' 0 k = e 0 k) ∧ (∀ i, (∀ j, j < m → kd j ≠ i) → e' 10 i = e 10 i ∧ e' 6 i = e 6 i ∧ e' 7 i = e 7 i ∧ e' 8 i = e 8 i ∧ e' 9 i = e 9 i) ∧
          ∀ r0 : Nat → tm_R, ∀ hb0 : Nat → Bool, ∃ r hb, (∀ i, (∀ j, j < m → kd j ≠ i) → r i = r0 i ∧ hb i = hb0 i) ∧ (∀ j, j < m → tm_at4 (e' 6) (e' 7) (e' 8) (e' 9) (kd j) (r (kd j)) ∧ e' 10 (kd j) = if hb (kd j) = true then 1 else 0) ∧ tm_rec1 pad md (dep p) m kd S (x, y, w, h) r hb := by
        intro V r g1 g2 g3 g4 g5
        refine ⟨V, g1, ?_, ?_, ?_, ?_⟩
        · intro c hc
          rw [g2 c (by omega), w2 c (by omega), l4 c (by omega) (by omega)]
        · intro k hk
          rw [g2 0 (by omega), w2 0 (by omega)]
          exact l5 k hk
        · intro i hi
          rw [g2 10 (by omega), w4 i hi, g4 i hi 6 (by omega) (by omega), g4 i hi 7 (by omega) (by omega), g4 i hi 8 (by omega) (by omega), g4 i hi 9 (by omega) (by omega), w2 6 (by omega), w2 7 (by omega), w2 8 (by omega), w2 9 (by omega), l4 10 (by omega) (by omega), l4 6 (by omega) (by omega), l4 7 (by omega) (by omega), l4 8 (by omega) (by omega), l4 9 (by omega) (by omega)]
          exact ⟨rfl, rfl, rfl, rfl, rfl⟩
        · intro r0 hb0
          have hin : ∀ j, j < m → (if (∃ t, t < m ∧ kd t = kd j) then r (kd j) else r0 (kd j)) = r (kd j) := fun j hj => if_pos ⟨j, hj, rfl⟩
          refine ⟨fun i => if (∃ j, j < m ∧ kd j = i) then r i else r0 i, fun i => if (∃ j, j < m ∧ kd j = i) then false else hb0 i, ?_, ?_, ?_⟩
          · intro i hi
            have hne : ¬ ∃ j, j < m ∧ kd j = i := fun ⟨j, a, b⟩ => hi j a b
            simp only
            rw [if_neg hne, if_neg hne]
            exact ⟨rfl, rfl⟩
          · intro j hj
            have hex : ∃ t, t < m ∧ kd t = kd j := ⟨j, hj, rfl⟩
            have hbf : ¬ (if (∃ t, t < m ∧ kd t = kd j) then false else hb0 (kd j)) = true := by rw [if_pos hex]; decide
            simp only
            rw [hin j hj, if_neg hbf]
            refine ⟨g3 j hj, ?_⟩
            rw [g2 10 (by omega)]
            exact w3 j hj
          · refine ⟨fun hy => absurd hy hz, fun _ => ⟨fun j hj => ?_, ?_, ?_, ?_⟩⟩
            · simp only
              rw [if_pos ⟨j, hj, rfl⟩]
            · intro e j hj
              simp only
              rw [hin j hj]
              exact g5.1 e j hj
            · intro e j hj
              simp only
              rw [hin j hj]
              exact g5.2.1 e j hj
            · intro e e' j hj
              simp only
              rw [hin _ ((tm_is_ok (S := S) (f := kd) (m := m) m (Nat.le_refl m)).1 j hj)]
              exact g5.2.2 e e' j hj
      have hinv : ∀ g : Nat → tm_R, ∃ r : Nat → tm_R, ∀ j, j < m → r (kd j) = g j := by
        intro g
        refine ⟨fun i => if hh : ∃ j, j < m ∧ kd j = i then g hh.choose else (0, 0, 0, 0), fun j hj => ?_⟩
        have hex : ∃ t, t < m ∧ kd t = kd j := ⟨j, hj, rfl⟩
        simp only
        rw [dif_pos hex]
        exact congrArg g (hinj _ _ hex.choose_spec.1 hj hex.choose_spec.2)
      have hz1 : ∀ q : Nat → Nat, (fun t => q (0 + t)) = q := fun q => by funext t; rw [Nat.zero_add]
      by_cases e0 : md = 0
      · rw [if_pos e0] at hst
        by_cases ed : dep p % 2 = 0
        · rw [if_pos ed] at hst
          obtain ⟨V, v1, v2, v3, v4⟩ := tmX8_row (g0 := g0) (a := 0) (n := m) (x := x + pad) (y := y + pad) (bs := true) (b := 1) hN rfl hok hkM hok.1 (by omega) hw1.2 hh1.2
          rw [v1] at hst
          obtain ⟨r, hr⟩ := hinv (tm_row (x + pad) (y + pad) (w - 2 * pad) (h - 2 * pad) true (fun j => S (kd j)) m)
          refine fin V r hst (fun c hc => v2 c (by omega)) (fun j hj => ?_) (fun i hi c c1 c2 => v4 i (fun j _ hj => hi j (by omega)) c c1) ⟨fun _ j hj => ?_, fun q => absurd q (by omega), fun q => absurd e0 q⟩
          · have := v3 j (Nat.zero_le _) (by omega)
            rw [hz1 (fun j => S (kd j)), Nat.sub_zero] at this
            rw [hr j hj]
            exact this
          · rw [hr j hj, decide_eq_true ed]
        · rw [if_neg ed] at hst
          obtain ⟨V, v1, v2, v3, v4⟩ := tmX8_row (g0 := g0) (a := 0) (n := m) (x := x + pad) (y := y + pad) (bs := false) (b := 0) hN rfl hok hkM hok.1 (by omega) hw1.2 hh1.2
          rw [v1] at hst
          obtain ⟨r, hr⟩ := hinv (tm_row (x + pad) (y + pad) (w - 2 * pad) (h - 2 * pad) false (fun j => S (kd j)) m)
          refine fin V r hst (fun c hc => v2 c (by omega)) (fun j hj => ?_) (fun i hi c c1 c2 => v4 i (fun j _ hj => hi j (by omega)) c c1) ⟨fun _ j hj => ?_, fun q => absurd q (by omega), fun q => absurd e0 q⟩
          · have := v3 j (Nat.zero_le _) (by omega)
            rw [hz1 (fun j => S (kd j)), Nat.sub_zero] at this
            rw [hr j hj]
            exact this
          · rw [hr j hj, decide_eq_false ed]
      · rw [if_neg e0] at hst
        by_cases e1 : md = 1
        · rw [if_pos e1] at hst
          obtain ⟨V, v1, v2, v3, v4⟩ := tmX8_strip (g0 := g0) (x := x + pad) (y := y + pad) hN hok hkM hw1 hh1
          rw [v1] at hst
          obtain ⟨r, hr⟩ := hinv (tm_strip (fun j => S (kd j)) m (x + pad) (y + pad) (w - 2 * pad) (h - 2 * pad))
          exact fin V r hst (fun c hc => v2 c (by omega)) (fun j hj => by rw [hr j hj]; exact v3 j hj) v4 ⟨fun q => absurd q e0, fun _ j hj => hr j hj, fun _ q => absurd e1 q⟩
        · rw [if_neg e1] at hst
          obtain ⟨V, v1, v2, v3, v4⟩ := tmX8_square (g0 := g0) (x := x + pad) (y := y + pad) hN hok hkM hw1.2 hh1.2 hS31
          rw [v1] at hst
          obtain ⟨i1, i2, i3, i4⟩ := tm_is_ok (S := S) (f := kd) (m := m) m (Nat.le_refl m)
          have hinv2 : ∃ r : Nat → tm_R, ∀ j, j < m → r (kd (tm_is S kd m j)) = tm_sqr (fun t => S (kd (tm_is S kd m t))) m m 0 (x + pad) (y + pad) (w - 2 * pad) (h - 2 * pad) j := by
            refine ⟨fun i => if hh : ∃ j, j < m ∧ kd (tm_is S kd m j) = i then tm_sqr (fun t => S (kd (tm_is S kd m t))) m m 0 (x + pad) (y + pad) (w - 2 * pad) (h - 2 * pad) hh.choose else (0, 0, 0, 0), fun j hj => ?_⟩
            have hex : ∃ t, t < m ∧ kd (tm_is S kd m t) = kd (tm_is S kd m j) := ⟨j, hj, rfl⟩
            simp only
            rw [dif_pos hex]
            exact congrArg _ (i2 _ _ (hinj _ _ (i1 _ hex.choose_spec.1) (i1 j hj) hex.choose_spec.2))
          obtain ⟨r, hr⟩ := hinv2
          refine fin V r hst (fun c hc => v2 c (by omega)) (fun j hj => ?_) v4 ⟨fun q => absurd q e0, fun q => absurd q e1, fun _ _ j hj => hr j hj⟩
          obtain ⟨i, hi, ei⟩ := i3 j hj
          rw [← ei, hr i hi]
          exact v3 i hi
