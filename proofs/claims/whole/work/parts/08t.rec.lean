/-! the layout of a whole tree, by its rule; what lies inside what -/
theorem tm_app_sum {s : Nat → Nat} {m L : Nat} (hm : 0 < m) (hT : 0 < tm_sum s m) : tm_sum (tm_app s m L) m = L := by
  have h1 := tm_fl_le s m L hT
  have h2 := tm_gv_cnt (r := tm_rm s (tm_sum s m) L) (m := m) (tm_left s m L) (Nat.le_of_lt (tm_left_lt s m L hm hT))
  unfold tm_app
  rw [tm_sum_add]
  unfold tm_cnt at h2
  rw [h2]
  unfold tm_left
  omega
theorem tm_app_upto {s : Nat → Nat} {m L j : Nat} (hj : j < m) (hT : 0 < tm_sum s m) : tm_sum (tm_app s m L) j + tm_app s m L j ≤ L := by
  have h1 := tm_app_sum (s := s) (m := m) (L := L) (by omega) hT
  have h2 := tm_sum_mono (f := tm_app s m L) (show j + 1 ≤ m by omega)
  simp only [tm_sum] at h2
  omega
/-- a rectangle ends no farther than the corner (X, Y) -/
def tm_in (r : tm_R) (X Y : Nat) : Prop := r.1 + r.2.2.1 ≤ X ∧ r.2.1 + r.2.2.2 ≤ Y
theorem tm_row_in {x y w h m j : Nat} {bs : Bool} {s : Nat → Nat} (hj : j < m) (hT : 0 < tm_sum s m) : tm_in (tm_row x y w h bs s m j) (x + w) (y + h) := by
  have h1 := tm_app_upto (s := s) (L := w) hj hT
  have h2 := tm_app_upto (s := s) (L := h) hj hT
  unfold tm_in tm_row
  cases bs <;> simp only [cond] <;> omega
theorem tm_in_w {r : tm_R} {X Y X' Y' : Nat} (h : tm_in r X Y) (hx : X ≤ X') (hy : Y ≤ Y') : tm_in r X' Y' := ⟨Nat.le_trans h.1 hx, Nat.le_trans h.2 hy⟩
theorem tm_strip_in {sz : Nat → Nat} {m x y w h j : Nat} (hj : j < m) (hs : ∀ j, j < m → 1 ≤ sz j) : tm_in (tm_strip sz m x y w h j) (x + w) (y + h) := by
  unfold tm_strip
  generalize tm_cut sz (tm_unit w h (tm_sum sz m)) w = C
  obtain ⟨i1, i2, i3⟩ := tm_si_in (C := C) hj
  obtain ⟨l1, l2⟩ := tm_st_lt (C := C) (show 1 ≤ m by omega) i1
  have hSs : tm_sum (tm_sS sz C m) (tm_ns C m) = tm_sum sz m := by rw [tm_sS_sum (by omega) _ (Nat.le_refl _), tm_stN]
  have hp : 0 < tm_sum sz m := tm_sum_pos (by omega) hs
  have h1 := tm_app_upto (s := tm_sS sz C m) (m := tm_ns C m) (L := h) i1 (by omega)
  refine tm_in_w (tm_row_in (by omega) (tm_sum_pos (by omega) (fun t ht => hs _ (by omega)))) (Nat.le_refl _) (by omega)
theorem tm_sqr_in {sz : Nat → Nat} {m j : Nat} (hj : j < m) (hs : ∀ j, j < m → 1 ≤ sz j) : ∀ f a x y w h, a ≤ j → tm_in (tm_sqr sz m f a x y w h j) (x + w) (y + h) := by
  intro f
  induction f with
  | zero => intro a x y w h _; exact ⟨Nat.zero_le _, Nat.zero_le _⟩
  | succ f ih =>
    intro a x y w h haj
    by_cases h0 : w = 0 ∨ h = 0
    · rw [tm_sqr_0 h0]
      unfold tm_in
      simp only
      omega
    · obtain ⟨r1, r2⟩ := tm_rn_in (sz := sz) (w := w) (h := h) (show a < m by omega)
      have hp : 0 < tm_sum (fun t => sz (a + t)) (m - a) := tm_sum_pos (by omega) (fun j hj => hs _ (by omega))
      have hp2 : 0 < tm_sum (fun t => sz (a + t)) (tm_rn sz m a w h) := tm_sum_pos (by omega) (fun j hj => hs _ (by omega))
      by_cases hw : h ≤ w
      · have htl : tm_tn sz m a w h ≤ w := by
          unfold tm_tn
          rw [if_pos hw]
          exact tm_thick_le (by omega) hp
        rw [tm_sqr_1 h0 hw]
        by_cases hlt : j < a + tm_rn sz m a w h
        · rw [if_pos hlt]
          exact tm_in_w (tm_row_in (by omega) hp2) (by omega) (Nat.le_refl _)
        · rw [if_neg hlt]
          exact tm_in_w (ih _ _ _ _ _ (by omega)) (by omega) (Nat.le_refl _)
      · have htl : tm_tn sz m a w h ≤ h := by
          unfold tm_tn
          rw [if_neg hw]
          exact tm_thick_le (by omega) hp
        rw [tm_sqr_2 h0 hw]
        by_cases hlt : j < a + tm_rn sz m a w h
        · rw [if_pos hlt]
          exact tm_in_w (tm_row_in (by omega) hp2) (Nat.le_refl _) (by omega)
        · rw [if_neg hlt]
          exact tm_in_w (ih _ _ _ _ _ (by omega)) (Nat.le_refl _) (by omega)
/-- the children of one node, by the mode -/
def tm_plc (md dp m : Nat) (kd S : Nat → Nat) (x y w h : Nat) (r : Nat → tm_R) : Prop :=
  (md = 0 → ∀ j, j < m → r (kd j) = tm_row x y w h (decide (dp % 2 = 0)) (fun t => S (kd t)) m j) ∧
  (md = 1 → ∀ j, j < m → r (kd j) = tm_strip (fun t => S (kd t)) m x y w h j) ∧
  (¬ md = 0 → ¬ md = 1 → ∀ j, j < m → r (kd (tm_is S kd m j)) = tm_sqr (fun t => S (kd (tm_is S kd m t))) m m 0 x y w h j)
theorem tm_plc_uq {md dp m : Nat} {kd S : Nat → Nat} {x y w h : Nat} {r r' : Nat → tm_R} (h1 : tm_plc md dp m kd S x y w h r) (h2 : tm_plc md dp m kd S x y w h r') {j : Nat} (hj : j < m) : r (kd j) = r' (kd j) := by
  by_cases e0 : md = 0
  · rw [h1.1 e0 j hj, h2.1 e0 j hj]
  · by_cases e1 : md = 1
    · rw [h1.2.1 e1 j hj, h2.2.1 e1 j hj]
    · obtain ⟨i, hi, e⟩ := (tm_is_ok (S := S) (f := kd) (m := m) m (Nat.le_refl m)).2.2.1 j hj
      rw [← e, h1.2.2 e0 e1 i hi, h2.2.2 e0 e1 i hi]
theorem tm_plc_in {md dp m : Nat} {kd S : Nat → Nat} {x y w h : Nat} {r : Nat → tm_R} (h1 : tm_plc md dp m kd S x y w h r) (hs : ∀ j, j < m → 1 ≤ S (kd j)) {j : Nat} (hj : j < m) : tm_in (r (kd j)) (x + w) (y + h) := by
  by_cases e0 : md = 0
  · rw [h1.1 e0 j hj]
    exact tm_row_in hj (tm_sum_pos (by omega) hs)
  · by_cases e1 : md = 1
    · rw [h1.2.1 e1 j hj]
      exact tm_strip_in hj hs
    · have ok := tm_is_ok (S := S) (f := kd) (m := m) m (Nat.le_refl m)
      obtain ⟨i, hi, e⟩ := ok.2.2.1 j hj
      rw [← e, h1.2.2 e0 e1 i hi]
      exact tm_sqr_in hi (fun j hj => hs _ (ok.1 j hj)) _ _ _ _ _ _ (Nat.zero_le _)
/-- the rule at one node p with m children kd -/
def tm_rec1 (pad md dp m : Nat) (kd S : Nat → Nat) (rp : tm_R) (r : Nat → tm_R) (hb : Nat → Bool) : Prop :=
  ((rp.2.2.1 ≤ 2 * pad ∨ rp.2.2.2 ≤ 2 * pad) → ∀ j, j < m → r (kd j) = (0, 0, 0, 0) ∧ hb (kd j) = true) ∧
  (¬ (rp.2.2.1 ≤ 2 * pad ∨ rp.2.2.2 ≤ 2 * pad) → (∀ j, j < m → hb (kd j) = false) ∧ tm_plc md dp m kd S (rp.1 + pad) (rp.2.1 + pad) (rp.2.2.1 - 2 * pad) (rp.2.2.2 - 2 * pad) r)
def tm_rec (n : Nat) (par dep : Nat → Nat) (W H pad md : Nat) (S : Nat → Nat) (r : Nat → tm_R) (hb : Nat → Bool) : Prop :=
  r 0 = (0, 0, W, H) ∧ hb 0 = false ∧ ∀ p, p < n → tm_rec1 pad md (dep p) (tm_cc par p n) (tm_kd par p n) S (r p) r hb
theorem tm_rec_uq {n : Nat} {par dep : Nat → Nat} {W H pad md : Nat} {S : Nat → Nat} {r r' : Nat → tm_R} {hb hb' : Nat → Bool} (ht : tm_tree n par dep) (h1 : tm_rec n par dep W H pad md S r hb) (h2 : tm_rec n par dep W H pad md S r' hb') : ∀ k i, i < n → dep i = k → r i = r' i ∧ hb i = hb' i := by
  intro k
  induction k with
  | zero =>
    intro i hi hk
    have h0 : i = 0 := by
      by_cases h0 : i = 0
      · exact h0
      · have := (ht.2.2.2 i h0 hi).2
        omega
    subst h0
    rw [h1.1, h2.1, h1.2.1, h2.2.1]
    exact ⟨rfl, rfl⟩
  | succ k ih =>
    intro i hi hk
    have h0 : i ≠ 0 := fun e => by
      rw [e, ht.2.2.1] at hk
      omega
    obtain ⟨hp, hd⟩ := ht.2.2.2 i h0 hi
    obtain ⟨e1, e2⟩ := ih (par i) hp (by omega)
    obtain ⟨c1, c2⟩ := tm_kd_at n i hi h0 rfl
    have a1 := h1.2.2 (par i) hp
    have a2 := h2.2.2 (par i) hp
    rw [← e1] at a2
    by_cases hr : (r (par i)).2.2.1 ≤ 2 * pad ∨ (r (par i)).2.2.2 ≤ 2 * pad
    · have b1 := a1.1 hr _ c1
      have b2 := a2.1 hr _ c1
      rw [c2] at b1 b2
      rw [b1.1, b2.1, b1.2, b2.2]
      exact ⟨rfl, rfl⟩
    · obtain ⟨b1, b3⟩ := a1.2 hr
      obtain ⟨b2, b4⟩ := a2.2 hr
      have b5 := tm_plc_uq b3 b4 c1
      have b6 := b1 _ c1
      have b7 := b2 _ c1
      rw [c2] at b5 b6 b7
      rw [b6, b7]
      exact ⟨b5, rfl⟩
theorem tm_rec_in {n : Nat} {par dep : Nat → Nat} {W H pad md : Nat} {S : Nat → Nat} {r : Nat → tm_R} {hb : Nat → Bool} (ht : tm_tree n par dep) (h1 : tm_rec n par dep W H pad md S r hb) (hS : ∀ i, i < n → 1 ≤ S i) : ∀ k i, i < n → dep i = k → tm_in (r i) W H ∧ (hb i = true → r i = (0, 0, 0, 0)) := by
  intro k
  induction k with
  | zero =>
    intro i hi hk
    have h0 : i = 0 := by
      by_cases h0 : i = 0
      · exact h0
      · have := (ht.2.2.2 i h0 hi).2
        omega
    subst h0
    rw [h1.1, h1.2.1]
    exact ⟨⟨by simp only; omega, by simp only; omega⟩, fun q => absurd q (by decide)⟩
  | succ k ih =>
    intro i hi hk
    have h0 : i ≠ 0 := fun e => by
      rw [e, ht.2.2.1] at hk
      omega
    obtain ⟨hp, hd⟩ := ht.2.2.2 i h0 hi
    obtain ⟨e1, e2⟩ := ih (par i) hp (by omega)
    obtain ⟨c1, c2⟩ := tm_kd_at n i hi h0 rfl
    have a1 := h1.2.2 (par i) hp
    by_cases hr : (r (par i)).2.2.1 ≤ 2 * pad ∨ (r (par i)).2.2.2 ≤ 2 * pad
    · have b1 := a1.1 hr _ c1
      rw [c2] at b1
      rw [b1.1]
      exact ⟨⟨Nat.zero_le _, Nat.zero_le _⟩, fun _ => rfl⟩
    · obtain ⟨b1, b3⟩ := a1.2 hr
      have b5 := tm_plc_in b3 (fun j hj => hS _ (tm_kd_in n j hj).1) c1
      have b6 := b1 _ c1
      rw [c2] at b5 b6
      rw [b6]
      exact ⟨tm_in_w b5 (by have := e1.1; omega) (by have := e1.2; omega), fun q => absurd q (by decide)⟩
