/-! the class: the children of one node, laid -/
theorem tmX1_place {N : Nat} (hN : 300 ≤ N) {d s : tm_M} {p f m pad md dp : Nat} {rp : tm_R} {kd S : Nat → Nat} (hp : p < 24) (hpad : s 0 5 = nI pad) (hpl : pad ≤ 3) (hmd : s 0 6 = nI md) (hml : md < 2 ^ 31) (hf : d 10 p = nI f) (hm : d 11 p = nI m) (hfm : f + m ≤ 24) (hdp : d 2 p = nI dp) (hdl : dp < 2 ^ 31)
    (hk : ∀ j, j < m → d 9 (f + j) = nI (kd j) ∧ d 1 (kd j) = nI (S (kd j))) (hS : ∀ j, j < m → S (kd j) < 2 ^ 31) (ho : m ≠ 0 → tm_ok m kd (fun j => S (kd j))) (hr : tm_at4 (d 5) (d 6) (d 7) (d 8) p rp) (hrw : rp.2.2.1 ≤ 200) (hrh : rp.2.2.2 ≤ 200) :
    ∃ d', fX1_placeChildren N d s (nI p) = some d' ∧ (∀ c, c = 0 ∨ c = 1 ∨ c = 2 ∨ c = 4 ∨ c = 9 ∨ c = 10 ∨ c = 11 → d' c = d c) ∧ (∀ i, (∀ j, j < m → kd j ≠ i) → d' 3 i = d 3 i ∧ d' 5 i = d 5 i ∧ d' 6 i = d 6 i ∧ d' 7 i = d 7 i ∧ d' 8 i = d 8 i) ∧
      ∀ r0 : Nat → tm_R, ∀ hb0 : Nat → Bool, ∃ r hb, (∀ i, (∀ j, j < m → kd j ≠ i) → r i = r0 i ∧ hb i = hb0 i) ∧ (∀ j, j < m → tm_at4 (d' 5) (d' 6) (d' 7) (d' 8) (kd j) (r (kd j)) ∧ d' 3 (kd j) = if hb (kd j) = true then 1 else 0) ∧ tm_rec1 pad md dp m kd S rp r hb := by
  obtain ⟨x, y, w, h⟩ := rp
  obtain ⟨r1, r2, r3, r4⟩ := hr
  simp only at r1 r2 r3 r4 hrw hrh
  have hk2 : ∀ j, j < m → kd j < 24 := fun j hj => ((ho (by omega)).2.2.1 j hj).1
  have hinj : ∀ i j, i < m → j < m → kd i = kd j → i = j := fun i j hi hj => (ho (by omega)).2.2.2.1 i j hi hj
  -- opened
  obtain ⟨B, s1, s2, s3, s4, s5⟩ := tmX0_set (N := N) (tm_sh (tm_upk (tm_sh d 12) 0 2 0) 3) (nI (x + pad)) (nI (y + pad)) (nI w - 2 * nI pad) (nI h - 2 * nI pad)
  have hopen : fX2_open N (tm_sh d 12) (nI x + nI pad) (nI y + nI pad) (nI w - 2 * nI pad) (nI h - 2 * nI pad) = some (tm_ins (tm_upk (tm_sh d 12) 0 2 0) 3 1 B) := by
    simp only [fX2_open, tm_nm, nI_add, s1, Option.bind_some]
  generalize hO : tm_ins (tm_upk (tm_sh d 12) 0 2 0) 3 1 B = O at hopen
  have o02 : O 0 2 = nI 0 := by rw [← hO]; rfl
  have o3 : O 3 = B 0 := by rw [← hO]; rfl
  have hD : ∀ c, c < 12 → tm_ins d 12 14 O c = d c := fun c hc => tm_inN (by omega)
  have hD15 : tm_ins d 12 14 O 15 = B 0 := o3
  have hemp : fX0_isEmpty N (tm_sh (tm_sh (tm_ins d 12 14 O) 12) 3) = some (if w ≤ 2 * pad ∨ h ≤ 2 * pad then 1 else 0) := tmX0_empI (w := w) (h := h) (pad := pad) (by show tm_ins d 12 14 O 15 2 = _; rw [hD15]; exact s4) (by show tm_ins d 12 14 O 15 3 = _; rw [hD15]; exact s5) hrw hrh hpl
  -- looped
  have hloop : ∀ b : Bool, ∃ o, tm_whl (bX1_placeChildren_92 N (if b = true then 1 else 0) (nI (f + m))) N (nI f, tm_ins d 12 14 O) = some o ∧ tm_pcI (tm_ins d 12 14 O) (if b = true then 1 else 0) kd S m o.2 := fun b =>
    tmX1_pcL hN (tm_narB b) hfm o02 (fun j hj => ⟨by rw [hD 9 (by omega)]; exact (hk j hj).1, hk2 j hj, by rw [hD 1 (by omega)]; exact (hk j hj).2⟩) hinj
  have hroom : fX2_hasNoRoom N (tm_sh (tm_ins d 12 14 O) 12) = some (if w ≤ 2 * pad ∨ h ≤ 2 * pad then 1 else 0) := by
    simp only [fX2_hasNoRoom, hemp, Option.bind_some]
    split <;> rfl
  have hstart : ∀ (b : Int32) (o : Int32 × tm_M), fX2_hasNoRoom N (tm_sh (tm_ins d 12 14 O) 12) = some b → tm_whl (bX1_placeChildren_92 N b (nI (f + m))) N (nI f, tm_ins d 12 14 O) = some o → fX1_placeChildren N d s (nI p) = if b = 0 then ((fX1_isLeaf N o.2 (nI p)).bind fun t_20 => (if t_20 = 0 then (if (s 0 6) = 0 then (tm_gB (tm_inb (nI p) 24) (if ((o.2 2 (nI p).toNatClampNeg) - (o.2 2 (nI p).toNatClampNeg) / 2 * 2) = 0 then ((fX2_slice N (tm_sh o.2 12) (tm_sh o.2 4) (1 : Int32)).bind fun t_27 => (tm_nm (tm_ins (tm_ins o.2 12 14 t_27.1) 4 5 t_27.2) fun d0_28 => some d0_28)) else ((fX2_slice N (tm_sh o.2 12) (tm_sh o.2 4) (0 : Int32)).bind fun t_25 => (tm_nm (tm_ins (tm_ins o.2 12 14 t_25.1) 4 5 t_25.2) fun d0_26 => some d0_26)))) else (if (s 0 6) = 1 then ((fX2_strip N (tm_sh o.2 12) (tm_sh o.2 4)).bind fun t_30 => (tm_nm (tm_ins (tm_ins o.2 12 14 t_30.1) 4 5 t_30.2) fun d0_31 => some d0_31)) else ((fX2_squarify N (tm_sh o.2 12) (tm_sh o.2 4)).bind fun t_32 => (tm_nm (tm_ins (tm_ins o.2 12 14 t_32.1) 4 5 t_32.2) fun d0_33 => some d0_33)))) else (some o.2))) else (some o.2) := by
    intro b o hb1 hb2
    simp only [fX1_placeChildren, tm_nm]
    rw [tm_gT (tm_inbN hp (by decide)), nI_clamp (show p < 2 ^ 31 by omega), hpad, r1, r2, r3, r4, hopen]
    simp only [Option.bind_some]
    rw [hb1]
    simp only [Option.bind_some]
    rw [hD 10 (by omega), hD 11 (by omega), hf, hm, nI_add, hb2]
    simp only [Option.bind_some]
  by_cases hz : w ≤ 2 * pad ∨ h ≤ 2 * pad
  · -- no room
    obtain ⟨o, l1, q1, q2, q3, q4⟩ := hloop true
    rw [if_pos hz] at hroom
    have hst := hstart 1 o hroom l1
    rw [if_neg (by decide)] at hst
    refine ⟨o.2, hst, ?_, ?_, ?_⟩
    · intro c hc
      rw [q1 c (by omega), hD c (by omega)]
    · intro i hi
      have := q4 i hi
      rwa [hD 3 (by omega), hD 5 (by omega), hD 6 (by omega), hD 7 (by omega), hD 8 (by omega)] at this
    · intro r0 hb0
      refine ⟨fun i => if (∃ j, j < m ∧ kd j = i) then (0, 0, 0, 0) else r0 i, fun i => if (∃ j, j < m ∧ kd j = i) then true else hb0 i, ?_, ?_, ?_⟩
      · intro i hi
        have hne : ¬ ∃ j, j < m ∧ kd j = i := fun ⟨j, a, b⟩ => hi j a b
        simp only
        rw [if_neg hne, if_neg hne]
        exact ⟨rfl, rfl⟩
      · intro j hj
        have hex : ∃ t, t < m ∧ kd t = kd j := ⟨j, hj, rfl⟩
        have hbt : (if (∃ t, t < m ∧ kd t = kd j) then true else hb0 (kd j)) = true := if_pos hex
        simp only
        rw [if_pos hex, if_pos hbt]
        exact ⟨(q3 j hj).2, (q3 j hj).1⟩
      · refine ⟨fun _ j hj => ?_, fun hn => absurd hz hn⟩
        have hex : ∃ t, t < m ∧ kd t = kd j := ⟨j, hj, rfl⟩
        simp only
        rw [if_pos hex, if_pos hex]
        exact ⟨rfl, rfl⟩
  · obtain ⟨o, l1, q1, q2, q3, q4⟩ := hloop false
    rw [if_neg hz] at hroom
    have hst := hstart 0 o hroom l1
    rw [if_pos rfl] at hst
    have o11 : o.2 11 p = nI m := by rw [q1 11 (by omega), hD 11 (by omega)]; exact hm
    by_cases hm0 : m = 0
    · -- a leaf
      subst hm0
      have hlf : fX1_isLeaf N o.2 (nI p) = some 1 := by
        simp only [fX1_isLeaf]
        rw [tm_gT (tm_inbN hp (by decide)), nI_clamp (show p < 2 ^ 31 by omega), o11, if_pos nI_0]
      rw [hlf] at hst
      simp only [Option.bind_some] at hst
      rw [if_neg (by decide)] at hst
      refine ⟨o.2, hst, ?_, ?_, ?_⟩
      · intro c hc
        rw [q1 c (by omega), hD c (by omega)]
      · intro i hi
        have := q4 i hi
        rwa [hD 3 (by omega), hD 5 (by omega), hD 6 (by omega), hD 7 (by omega), hD 8 (by omega)] at this
      · intro r0 hb0
        refine ⟨r0, hb0, fun i _ => ⟨rfl, rfl⟩, fun j hj => by omega, ⟨fun _ j hj => by omega, fun _ => ⟨fun j hj => by omega, fun _ j hj => by omega, fun _ j hj => by omega, fun _ _ j hj => by omega⟩⟩⟩
    · have hok := ho hm0
      have hlf : fX1_isLeaf N o.2 (nI p) = some 0 := by
        simp only [fX1_isLeaf]
        rw [tm_gT (tm_inbN hp (by decide)), nI_clamp (show p < 2 ^ 31 by omega), o11, if_neg (nI_ne0 (by omega) (by omega))]
      rw [hlf] at hst
      simp only [Option.bind_some] at hst
      rw [if_pos trivial] at hst
      have e15 : o.2 15 = B 0 := by rw [q1 15 (by omega)]; exact hD15
      obtain ⟨iw1, iw2, iw3⟩ := tm_inner hrw hpl
      obtain ⟨ih1, ih2, ih3⟩ := tm_inner hrh hpl
      have f0 : tm_sh o.2 12 3 0 = nI (x + pad) := by show o.2 15 0 = _; rw [e15]; exact s2
      have f1 : tm_sh o.2 12 3 1 = nI (y + pad) := by show o.2 15 1 = _; rw [e15]; exact s3
      have f2 : tm_sh o.2 12 3 2 = nI (w - 2 * pad) := by show o.2 15 2 = _; rw [e15, ← iw3 (by omega)]; exact s4
      have f3 : tm_sh o.2 12 3 3 = nI (h - 2 * pad) := by show o.2 15 3 = _; rw [e15, ← ih3 (by omega)]; exact s5
      have hw1 : 1 ≤ w - 2 * pad ∧ w - 2 * pad ≤ 200 := by omega
      have hh1 : 1 ≤ h - 2 * pad ∧ h - 2 * pad ≤ 200 := by omega
      -- the end of all modes
      have fin : ∀ (P' R' : tm_M) (r : Nat → tm_R), fX1_placeChildren N d s (nI p) = some (tm_ins (tm_ins o.2 12 14 P') 4 5 R') → (∀ j, j < m → tm_at4 (R' 1) (R' 2) (R' 3) (R' 4) (kd j) (r (kd j))) → (∀ i, (∀ j, j < m → kd j ≠ i) → ∀ c, R' c i = tm_sh o.2 4 c i) → R' 0 = tm_sh o.2 4 0 → tm_plc md dp m kd S (x + pad) (y + pad) (w - 2 * pad) (h - 2 * pad) r →
          ∃ d', fX1_placeChildren N d s (nI p) = some d' ∧ (∀ c, c = 0 ∨ c = 1 ∨ c = 2 ∨ c = 4 ∨ c = 9 ∨ c = 10 ∨ c = 11 → d' c = d c) ∧ (∀ i, (∀ j, j < m → kd j ≠ i) → d' 3 i = d 3 i ∧ d' 5 i = d 5 i ∧ d' 6 i = d 6 i ∧ d' 7 i = d 7 i ∧ d' 8 i = d 8 i) ∧
          ∀ r0 : Nat → tm_R, ∀ hb0 : Nat → Bool, ∃ r hb, (∀ i, (∀ j, j < m → kd j ≠ i) → r i = r0 i ∧ hb i = hb0 i) ∧ (∀ j, j < m → tm_at4 (d' 5) (d' 6) (d' 7) (d' 8) (kd j) (r (kd j)) ∧ d' 3 (kd j) = if hb (kd j) = true then 1 else 0) ∧ tm_rec1 pad md dp m kd S (x, y, w, h) r hb := by
        intro P' R' r g1 g2 g3 g4 g5
        refine ⟨_, g1, ?_, ?_, ?_⟩
        · intro c hc
          by_cases hc4 : c = 4
          · subst hc4
            show R' 0 = _
            rw [g4]
            show o.2 4 = _
            rw [q1 4 (by omega), hD 4 (by omega)]
          · rw [tm_inN (by omega), tm_inN (by omega), q1 c (by omega), hD c (by omega)]
        · intro i hi
          obtain ⟨b1, b2, b3, b4, b5⟩ := q4 i hi
          refine ⟨?_, ?_, ?_, ?_, ?_⟩
          · rw [tm_inN (by omega), tm_inN (by omega), b1, hD 3 (by omega)]
          · show R' 1 i = _
            rw [g3 i hi]
            show o.2 5 i = _
            rw [b2, hD 5 (by omega)]
          · show R' 2 i = _
            rw [g3 i hi]
            show o.2 6 i = _
            rw [b3, hD 6 (by omega)]
          · show R' 3 i = _
            rw [g3 i hi]
            show o.2 7 i = _
            rw [b4, hD 7 (by omega)]
          · show R' 4 i = _
            rw [g3 i hi]
            show o.2 8 i = _
            rw [b5, hD 8 (by omega)]
        · intro r0 hb0
          have hin : ∀ j, j < m → (if (∃ t, t < m ∧ kd t = kd j) then r (kd j) else r0 (kd j)) = r (kd j) := fun j hj => if_pos ⟨j, hj, rfl⟩
          refine ⟨fun i => if (∃ j, j < m ∧ kd j = i) then r i else r0 i, fun i => if (∃ j, j < m ∧ kd j = i) then false else hb0 i, ?_, ?_, ?_⟩
          · intro i hi
            have hne : ¬ ∃ j, j < m ∧ kd j = i := fun ⟨j, a, b⟩ => hi j a b
            simp only
            rw [if_neg hne, if_neg hne]
            exact ⟨rfl, rfl⟩
          · intro j hj
            have hex : ∃ t, t < m ∧ kd t = kd j := ⟨j, hj, rfl⟩
            have hbf : ¬ (if (∃ t, t < m ∧ kd t = kd j) then false else hb0 (kd j)) = true := by rw [if_pos hex]; decide
            simp only
            rw [hin j hj, if_neg hbf]
            refine ⟨g2 j hj, ?_⟩
            rw [tm_inN (by omega), tm_inN (by omega)]
            exact (q3 j hj).1
          · refine ⟨fun hy => absurd hy hz, fun _ => ⟨fun j hj => ?_, ?_, ?_, ?_⟩⟩
            · simp only
              rw [if_pos ⟨j, hj, rfl⟩]
            · intro e j hj
              simp only
              rw [hin j hj]
              exact g5.1 e j hj
            · intro e j hj
              simp only
              rw [hin j hj]
              exact g5.2.1 e j hj
            · intro e e' j hj
              simp only
              rw [hin _ ((tm_is_ok (S := S) (f := kd) (m := m) m (Nat.le_refl m)).1 j hj)]
              exact g5.2.2 e e' j hj
      -- places behind the children's numbers
      have hinv : ∀ g : Nat → tm_R, ∃ r : Nat → tm_R, ∀ j, j < m → r (kd j) = g j := by
        intro g
        refine ⟨fun i => if hh : ∃ j, j < m ∧ kd j = i then g hh.choose else (0, 0, 0, 0), fun j hj => ?_⟩
        have hex : ∃ t, t < m ∧ kd t = kd j := ⟨j, hj, rfl⟩
        simp only
        rw [dif_pos hex]
        exact congrArg g (hinj _ _ hex.choose_spec.1 hj hex.choose_spec.2)
      rw [nI_clamp (show p < 2 ^ 31 by omega), hmd, show o.2 2 p = nI dp from by rw [q1 2 (by omega), hD 2 (by omega)]; exact hdp, tm_gT (tm_inbN hp (by decide))] at hst
      have hpar : nI dp - nI dp / 2 * 2 = nI (dp % 2) := by
        have : nI dp / 2 = nI (dp / 2) := pk_div hdl (by decide) (by decide)
        rw [this, show nI (dp / 2) * 2 = nI (dp / 2 * 2) from pk_mul _ _, pk_sub (by omega)]
        congr 1
        omega
      rw [hpar] at hst
      by_cases e0 : md = 0
      · subst e0
        rw [if_pos nI_0] at hst
        by_cases ed : dp % 2 = 0
        · rw [ed, if_pos nI_0] at hst
          obtain ⟨P', R', g1, g2, g3, g4⟩ := tmX2_slc (R := tm_sh o.2 4) (bs := true) (b := 1) hN rfl hok q2 f0 f1 f2 f3 hw1.2 hh1.2
          rw [g1] at hst
          simp only [Option.bind_some, tm_nm] at hst
          obtain ⟨r, hr⟩ := hinv (tm_row (x + pad) (y + pad) (w - 2 * pad) (h - 2 * pad) true (fun j => S (kd j)) m)
          refine fin P' R' r hst (fun j hj => by rw [hr j hj]; exact g2 j hj) g3 g4 ⟨fun _ j hj => ?_, fun e => absurd e (by decide), fun e => absurd rfl e⟩
          rw [hr j hj, decide_eq_true ed]
        · rw [show dp % 2 = 1 by omega, if_neg (by decide)] at hst
          obtain ⟨P', R', g1, g2, g3, g4⟩ := tmX2_slc (R := tm_sh o.2 4) (bs := false) (b := 0) hN rfl hok q2 f0 f1 f2 f3 hw1.2 hh1.2
          rw [g1] at hst
          simp only [Option.bind_some, tm_nm] at hst
          obtain ⟨r, hr⟩ := hinv (tm_row (x + pad) (y + pad) (w - 2 * pad) (h - 2 * pad) false (fun j => S (kd j)) m)
          refine fin P' R' r hst (fun j hj => by rw [hr j hj]; exact g2 j hj) g3 g4 ⟨fun _ j hj => ?_, fun e => absurd e (by decide), fun e => absurd rfl e⟩
          rw [hr j hj, decide_eq_false ed]
      · rw [if_neg (nI_ne0 (by omega) hml)] at hst
        by_cases e1 : md = 1
        · subst e1
          rw [if_pos (show nI 1 = 1 from rfl)] at hst
          obtain ⟨P', R', g1, g2, g3, g4⟩ := tmX2_strip (R := tm_sh o.2 4) hN hok q2 f0 f1 f2 f3 hw1 hh1
          rw [g1] at hst
          simp only [Option.bind_some, tm_nm] at hst
          obtain ⟨r, hr⟩ := hinv (tm_strip (fun j => S (kd j)) m (x + pad) (y + pad) (w - 2 * pad) (h - 2 * pad))
          exact fin P' R' r hst (fun j hj => by rw [hr j hj]; exact g2 j hj) g3 g4 ⟨fun e => absurd e (by decide), fun _ j hj => hr j hj, fun _ e => absurd rfl e⟩
        · rw [if_neg (by rw [show (1 : Int32) = nI 1 from rfl, nI_eq hml (by decide)]; exact e1)] at hst
          obtain ⟨P', R', g1, g2, g3, g4⟩ := tmX2_square (R := tm_sh o.2 4) hN hok q2 f0 f1 f2 f3 hw1.2 hh1.2 hS
          rw [g1] at hst
          simp only [Option.bind_some, tm_nm] at hst
          obtain ⟨i1, i2, i3, i4⟩ := tm_is_ok (S := S) (f := kd) (m := m) m (Nat.le_refl m)
          -- the children's places behind the sorting
          have hinv2 : ∃ r : Nat → tm_R, ∀ j, j < m → r (kd (tm_is S kd m j)) = tm_sqr (fun t => S (kd (tm_is S kd m t))) m m 0 (x + pad) (y + pad) (w - 2 * pad) (h - 2 * pad) j := by
            refine ⟨fun i => if hh : ∃ j, j < m ∧ kd (tm_is S kd m j) = i then tm_sqr (fun t => S (kd (tm_is S kd m t))) m m 0 (x + pad) (y + pad) (w - 2 * pad) (h - 2 * pad) hh.choose else (0, 0, 0, 0), fun j hj => ?_⟩
            have hex : ∃ t, t < m ∧ kd (tm_is S kd m t) = kd (tm_is S kd m j) := ⟨j, hj, rfl⟩
            simp only
            rw [dif_pos hex]
            exact congrArg _ (i2 _ _ (hinj _ _ (i1 _ hex.choose_spec.1) (i1 j hj) hex.choose_spec.2))
          obtain ⟨r, hr⟩ := hinv2
          refine fin P' R' r hst (fun j hj => ?_) g3 g4 ⟨fun e => absurd e e0, fun e => absurd e e1, fun _ _ j hj => hr j hj⟩
          obtain ⟨i, hi, ei⟩ := i3 j hj
          rw [← ei, hr i hi]
          exact g2 i hi
