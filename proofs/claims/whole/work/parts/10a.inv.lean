/-! the invariant between class and reference -/
variable {n W H pad md : Nat} {own par dep : Nat → Nat} {r : Nat → tm_R} {hb : Nat → Bool} {d e d' e' : tm_M}
def tm_stR (f : Nat → Int32) (n : Nat) (own par : Nat → Nat) (W H pad md : Nat) : Prop := f 0 = nI n ∧ f 1 = nI W ∧ f 2 = nI H ∧ f 3 = nI pad ∧ f 4 = nI md ∧ (∀ i, i < n → f (5 + i) = nI (own i)) ∧ (∀ i, i ≠ 0 → i < n → f (29 + i) = nI (par i)) ∧ f 29 = -1
/-- a State of the class and a row of the reference hold the same state, in range -/
def tm_sim (s : tm_M) (f : Nat → Int32) : Prop := ∃ (n : Nat) (own par dep : Nat → Nat) (W H pad md : Nat), tm_stv n own par dep W H pad md ∧ tm_stX s n own par W H pad md ∧ tm_stR f n own par W H pad md
/-- the saved states: the class's ring, the reference's rows -/
def tm_ring (d e : tm_M) : Prop := ∃ nx ct : Nat, nx < 4 ∧ ct ≤ 4 ∧ d 30 1 = nI nx ∧ d 30 2 = nI ct ∧ e 0 2 = nI ct ∧ ∀ j, j < ct → tm_sim (tm_sh d (32 + 3 * ((nx + 4 - ct + j) % 4))) (fun k => e 2 (53 * j + k))
def tm_err (d e : tm_M) : Prop := d 0 5 = e 3 0 ∧ d 0 6 = e 3 1 ∧ d 0 7 = e 3 2
def tm_J (d e : tm_M) (n : Nat) (own par dep : Nat → Nat) (W H pad md : Nat) (r : Nat → tm_R) (hb : Nat → Bool) : Prop := tm_stv n own par dep W H pad md ∧ tm_stX (tm_sh d 1) n own par W H pad md ∧ tm_stR (e 1) n own par W H pad md ∧ tm_rec n par dep W H pad md (tm_sz n own par dep) r hb ∧ tm_laid (tm_sh d 4) n own par dep r hb ∧ tm_err d e ∧ tm_ring d e
def tm_Inv (d e : tm_M) (_ : Int64) : Prop := ∃ (n : Nat) (own par dep : Nat → Nat) (W H pad md : Nat) (r : Nat → tm_R) (hb : Nat → Bool), tm_J d e n own par dep W H pad md r hb
theorem tm_J_I (h : tm_J d e n own par dep W H pad md r hb) (g : Int64) : tm_Inv d e g := ⟨n, own, par, dep, W, H, pad, md, r, hb, h⟩
theorem tm_stX_c {s s' : tm_M} (h : tm_stX s n own par W H pad md) (h0 : s' 0 = s 0) (h1 : s' 1 = s 1) (h2 : s' 2 = s 2) : tm_stX s' n own par W H pad md := by
  unfold tm_stX at h ⊢
  rw [h0, h1, h2]
  exact h
theorem tm_stR_c {f f' : Nat → Int32} (hn : n ≤ 24) (h : tm_stR f n own par W H pad md) (hf : ∀ k, k < 53 → f' k = f k) : tm_stR f' n own par W H pad md := by
  obtain ⟨a1, a2, a3, a4, a5, a6, a7, a8⟩ := h
  exact ⟨by rw [hf 0 (by omega)]; exact a1, by rw [hf 1 (by omega)]; exact a2, by rw [hf 2 (by omega)]; exact a3, by rw [hf 3 (by omega)]; exact a4, by rw [hf 4 (by omega)]; exact a5, fun i hi => by rw [hf (5 + i) (by omega)]; exact a6 i hi, fun i h0 hi => by rw [hf (29 + i) (by omega)]; exact a7 i h0 hi, by rw [hf 29 (by omega)]; exact a8⟩
theorem tm_sim_c {s s' : tm_M} {f f' : Nat → Int32} (h : tm_sim s f) (h0 : s' 0 = s 0) (h1 : s' 1 = s 1) (h2 : s' 2 = s 2) (hf : ∀ k, k < 53 → f' k = f k) : tm_sim s' f' := by
  obtain ⟨n, own, par, dep, W, H, pad, md, a1, a2, a3⟩ := h
  exact ⟨n, own, par, dep, W, H, pad, md, a1, tm_stX_c a2 h0 h1 h2, tm_stR_c a1.1.2.1 a3 hf⟩
theorem tm_ring_c (h : tm_ring d e) (h1 : d' 30 1 = d 30 1) (h2 : d' 30 2 = d 30 2) (h3 : ∀ c, 32 ≤ c → c < 44 → d' c = d c) (h4 : e' 0 2 = e 0 2) (h5 : e' 2 = e 2) : tm_ring d' e' := by
  obtain ⟨nx, ct, a1, a2, a3, a4, a5, a6⟩ := h
  refine ⟨nx, ct, a1, a2, by rw [h1]; exact a3, by rw [h2]; exact a4, by rw [h4]; exact a5, fun j hj => ?_⟩
  have hm : (nx + 4 - ct + j) % 4 < 4 := Nat.mod_lt _ (by decide)
  have b0 : ∀ c, c < 3 → tm_sh d' (32 + 3 * ((nx + 4 - ct + j) % 4)) c = tm_sh d (32 + 3 * ((nx + 4 - ct + j) % 4)) c := fun c hc => h3 (c + (32 + 3 * ((nx + 4 - ct + j) % 4))) (by omega) (by omega)
  exact tm_sim_c (a6 j hj) (b0 0 (by omega)) (b0 1 (by omega)) (b0 2 (by omega)) (fun k _ => by rw [h5])
theorem tm_laid_c (h : tm_laid d n own par dep r hb) (hc : ∀ c, c < 12 → d' c = d c) : tm_laid d' n own par dep r hb := by
  unfold tm_laid at h ⊢
  rw [hc 1 (by omega), hc 2 (by omega), hc 11 (by omega), hc 3 (by omega), hc 5 (by omega), hc 6 (by omega), hc 7 (by omega), hc 8 (by omega)]
  exact h
theorem tm_J_c (h : tm_J d e n own par dep W H pad md r hb) (hd : ∀ c, c ≠ 0 → c < 44 → d' c = d c) (h1 : e' 1 = e 1) (h2 : e' 2 = e 2) (h0 : e' 0 2 = e 0 2) (her : tm_err d' e') : tm_J d' e' n own par dep W H pad md r hb := by
  obtain ⟨a1, a2, a3, a4, a5, a6, a7⟩ := h
  refine ⟨a1, tm_stX_c a2 (hd (0 + 1) (by omega) (by omega)) (hd (1 + 1) (by omega) (by omega)) (hd (2 + 1) (by omega) (by omega)), by rw [h1]; exact a3, a4, tm_laid_c a5 (fun c hc => hd (c + 4) (by omega) (by omega)), her, tm_ring_c a7 (by rw [hd 30 (by omega) (by omega)]) (by rw [hd 30 (by omega) (by omega)]) (fun c hc1 hc2 => hd c (by omega) hc2) h0 h2⟩
theorem tm_J_e (h : tm_J d e n own par dep W H pad md r hb) (h1 : e' 1 = e 1) (h2 : e' 2 = e 2) (h3 : e' 3 = e 3) (h0 : e' 0 2 = e 0 2) : tm_J d e' n own par dep W H pad md r hb := by
  refine tm_J_c h (fun _ _ _ => rfl) h1 h2 h0 ?_
  unfold tm_err
  rw [h3]
  exact h.2.2.2.2.2.1
theorem tm_J_d (h : tm_J d e n own par dep W H pad md r hb) (hd : ∀ c, c < 44 → d' c = d c) : tm_J d' e n own par dep W H pad md r hb := by
  refine tm_J_c h (fun c _ hc => hd c hc) rfl rfl rfl ?_
  unfold tm_err
  rw [hd 0 (by omega)]
  exact h.2.2.2.2.2.1
/-- what the class's Layout holds of a node -/
theorem tm_J_l (h : tm_J d e n own par dep W H pad md r hb) {i : Nat} (hi : i < n) : d 5 i = nI (tm_sz n own par dep i) ∧ d 6 i = nI (dep i) ∧ d 15 i = nI (tm_cc par i n) ∧ d 7 i = (if hb i = true then 1 else 0) ∧ d 9 i = nI (r i).1 ∧ d 10 i = nI (r i).2.1 ∧ d 11 i = nI (r i).2.2.1 ∧ d 12 i = nI (r i).2.2.2 := h.2.2.2.2.1 i hi
theorem tm_J_in (h : tm_J d e n own par dep W H pad md r hb) {i : Nat} (hi : i < n) : (r i).1 + (r i).2.2.1 ≤ 200 ∧ (r i).2.1 + (r i).2.2.2 ≤ 200 := by
  obtain ⟨⟨ht, hown, hW, hH, hpl, hmd⟩, _, _, a4, _⟩ := h
  have q := (tm_rec_in ht a4 (fun i hi => tm_sz_pos ht (fun i hi => (hown i hi).1) _ i hi (Nat.le_refl _)) (dep i) i hi rfl).1
  have q1 := q.1
  have q2 := q.2
  omega
/-! calls that fail -/
theorem tm_fail2 (N : Nat) (g : Int64) (h : tm_J d e n own par dep W H pad md r hb) : ∃ d' e', fX7_failInvalid N d = some (-2, d') ∧ fX8_fails N e g (-2) = some (-2, e') ∧ tm_J d' e' n own par dep W H pad md r hb := by
  refine ⟨tm_upk d 0 5 (d 0 5 + 1), tm_upc e 3 (upd (e 3) 0 (e 3 0 + 1)), rfl, ?_, ?_⟩
  · simp only [fX8_fails]
    rw [show (-2 : Int32) - -2 = nI 0 from by decide +kernel, tm_gT (tm_inbN (show 0 < 3 by decide) (by decide)), nI_clamp (show 0 < 2 ^ 31 by decide)]
    rfl
  · obtain ⟨b1, b2, b3⟩ := h.2.2.2.2.2.1
    refine tm_J_c h (fun c hc _ => tm_ukN hc) (tm_ucN (by decide)) (tm_ucN (by decide)) (by rw [tm_ucN (show 0 ≠ 3 by decide)]) ⟨?_, ?_, ?_⟩
    · rw [tm_ukE, tm_ucE, pk_us, b1]
    · rw [tm_ukF (show 6 ≠ 5 by decide), tm_ucE, pk_un (show 1 ≠ 0 by decide)]; exact b2
    · rw [tm_ukF (show 7 ≠ 5 by decide), tm_ucE, pk_un (show 2 ≠ 0 by decide)]; exact b3
theorem tm_fail3 (N : Nat) (g : Int64) (h : tm_J d e n own par dep W H pad md r hb) : ∃ d' e', fX7_failRejected N d = some (-3, d') ∧ fX8_fails N e g (-3) = some (-3, e') ∧ tm_J d' e' n own par dep W H pad md r hb := by
  refine ⟨tm_upk d 0 6 (d 0 6 + 1), tm_upc e 3 (upd (e 3) 1 (e 3 1 + 1)), rfl, ?_, ?_⟩
  · simp only [fX8_fails]
    rw [show (-2 : Int32) - -3 = nI 1 from by decide +kernel, tm_gT (tm_inbN (show 1 < 3 by decide) (by decide)), nI_clamp (show 1 < 2 ^ 31 by decide)]
    rfl
  · obtain ⟨b1, b2, b3⟩ := h.2.2.2.2.2.1
    refine tm_J_c h (fun c hc _ => tm_ukN hc) (tm_ucN (by decide)) (tm_ucN (by decide)) (by rw [tm_ucN (show 0 ≠ 3 by decide)]) ⟨?_, ?_, ?_⟩
    · rw [tm_ukF (show 5 ≠ 6 by decide), tm_ucE, pk_un (show 0 ≠ 1 by decide)]; exact b1
    · rw [tm_ukE, tm_ucE, pk_us, b2]
    · rw [tm_ukF (show 7 ≠ 6 by decide), tm_ucE, pk_un (show 2 ≠ 1 by decide)]; exact b3
theorem tm_fail4 (N : Nat) (g : Int64) (h : tm_J d e n own par dep W H pad md r hb) : ∃ d' e', fX7_failFull N d = some (-4, d') ∧ fX8_fails N e g (-4) = some (-4, e') ∧ tm_J d' e' n own par dep W H pad md r hb := by
  refine ⟨tm_upk d 0 7 (d 0 7 + 1), tm_upc e 3 (upd (e 3) 2 (e 3 2 + 1)), rfl, ?_, ?_⟩
  · simp only [fX8_fails]
    rw [show (-2 : Int32) - -4 = nI 2 from by decide +kernel, tm_gT (tm_inbN (show 2 < 3 by decide) (by decide)), nI_clamp (show 2 < 2 ^ 31 by decide)]
    rfl
  · obtain ⟨b1, b2, b3⟩ := h.2.2.2.2.2.1
    refine tm_J_c h (fun c hc _ => tm_ukN hc) (tm_ucN (by decide)) (tm_ucN (by decide)) (by rw [tm_ucN (show 0 ≠ 3 by decide)]) ⟨?_, ?_, ?_⟩
    · rw [tm_ukF (show 5 ≠ 7 by decide), tm_ucE, pk_un (show 0 ≠ 2 by decide)]; exact b1
    · rw [tm_ukF (show 6 ≠ 7 by decide), tm_ucE, pk_un (show 1 ≠ 2 by decide)]; exact b2
    · rw [tm_ukE, tm_ucE, pk_us, b3]
/-! is it a node? is it in range? -/
theorem tm_n0 {n : Nat} {a : Int32} (hn : n < 2 ^ 31) (h : nI n ≤ a) : ¬ a < 0 := fun q => by
  rw [Int32.lt_iff_toInt_lt, show (0 : Int32).toInt = 0 from rfl] at q
  rw [Int32.le_iff_toInt_le, nI_toInt hn] at h
  omega
theorem tm_n1 {n : Nat} {a : Int32} (hn : n < 2 ^ 31) (h1 : 1 ≤ n) : nI (n - 1) < a ↔ nI n ≤ a := by
  rw [Int32.lt_iff_toInt_lt, Int32.le_iff_toInt_le, nI_toInt hn, nI_toInt (by omega)]
  omega
theorem tm_has (N : Nat) (g : Int64) (h : tm_J d e n own par dep W H pad md r hb) (a : Int32) : (∃ i, i < n ∧ a = nI i ∧ fX5_has N (tm_sh d 1) a = some 1 ∧ fX8_isNode N e g a = some 1) ∨ (fX5_has N (tm_sh d 1) a = some 0 ∧ fX8_isNode N e g a = some 0) := by
  have hn1 := h.1.1.1
  have hn24 := h.1.1.2.1
  have s1 : tm_sh d 1 0 2 = nI n := h.2.1.1
  have s2 : e 1 (0 : Int32).toNatClampNeg = nI n := h.2.2.1.1
  have s3 : nI n - 1 = nI (n - 1) := pk_sub (b := 1) hn1
  simp only [fX5_has, fX8_isNode, fX8_within]
  rw [s1, s2, s3]
  rcases pk_ix a (show n < 2 ^ 31 by omega) with hlt | hge | ⟨j, hj, ej⟩
  · right
    rw [if_pos hlt, if_pos hlt]
    exact ⟨rfl, rfl⟩
  · right
    have h1 := tm_n0 (by omega) hge
    have h2 := (tm_n1 (a := a) (show n < 2 ^ 31 by omega) hn1).mpr hge
    rw [if_neg h1, if_neg h1, if_pos hge, if_pos h2]
    exact ⟨rfl, rfl⟩
  · left
    subst ej
    refine ⟨j, hj, rfl, ?_, ?_⟩
    · rw [if_neg (nI_pos (by omega)), if_neg (nI_ge hj (by omega))]
    · rw [if_neg (nI_pos (by omega)), if_neg (nI_nlt (by omega) (by omega))]
      rfl
theorem tm_win (N : Nat) (a : Int32) (lo hi : Nat) (hl : lo ≤ hi) (hh : hi < 2 ^ 31 - 1) : (∃ k, lo ≤ k ∧ k ≤ hi ∧ a = nI k ∧ fX8_within N a (nI lo) (nI hi) = some 1) ∨ fX8_within N a (nI lo) (nI hi) = some 0 := by
  simp only [fX8_within]
  by_cases h1 : a < nI lo
  · right
    rw [if_pos h1]
  · by_cases h2 : nI hi < a
    · right
      rw [if_neg h1, if_pos h2]
    · left
      rw [Int32.lt_iff_toInt_lt, nI_toInt (by omega)] at h1 h2
      obtain ⟨k, hk, ek⟩ := nI_of (x := a) (fun q => by
        rw [Int32.lt_iff_toInt_lt, show (0 : Int32).toInt = 0 from rfl] at q
        omega)
      subst ek
      rw [nI_toInt hk] at h1 h2
      exact ⟨k, by omega, by omega, rfl, by rw [if_neg (nI_nlt (by omega) (by omega)), if_neg (nI_nlt (by omega) (by omega))]⟩
