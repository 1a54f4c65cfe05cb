/-! pure rows: loops with their states told, numbers as words, memory -/
theorem tm_for {σ ρ : Type} {body : σ → Option (σ ⊕ ρ)} (G : Nat → σ) {o : ρ} : ∀ (k a : Nat), (∀ i, a ≤ i → i < a + k → body (G i) = some (.inl (G (i + 1)))) → body (G (a + k)) = some (.inr o) → ∀ n, k < n → tm_whl body n (G a) = some o := by
  intro k
  induction k with
  | zero =>
    intro a _ hx n hn
    obtain ⟨n, rfl⟩ : ∃ n', n = n' + 1 := ⟨n - 1, by omega⟩
    rw [Nat.add_zero] at hx
    simp only [tm_whl, hx, Option.bind_some]
  | succ k ih =>
    intro a hs hx n hn
    obtain ⟨n, rfl⟩ : ∃ n', n = n' + 1 := ⟨n - 1, by omega⟩
    have h0 := hs a (Nat.le_refl a) (by omega)
    simp only [tm_whl, h0, Option.bind_some]
    refine ih (a + 1) (fun i h1 h2 => hs i (by omega) (by omega)) ?_ n (by omega)
    rw [show a + 1 + k = a + (k + 1) by omega]
    exact hx
theorem tm_forE {σ ρ : Type} {body : σ → Option (σ ⊕ ρ)} (G : Nat → σ) {o : ρ} (a e : Nat) (hae : a ≤ e) (hs : ∀ i, a ≤ i → i < e → body (G i) = some (.inl (G (i + 1)))) (hx : body (G e) = some (.inr o)) {n : Nat} (hn : e - a < n) : tm_whl body n (G a) = some o := by
  obtain ⟨k, rfl⟩ : ∃ k, e = a + k := ⟨e - a, by omega⟩
  exact tm_for G k a hs hx n (by omega)
/-- a loop with a measure, its states known by a relation -/
theorem tm_wh {σ ρ : Type} {body : σ → Option (σ ⊕ ρ)} {I : σ → Prop} {P : ρ → Prop} (μ : σ → Nat) (h : ∀ s, I s → (∃ s', body s = some (.inl s') ∧ I s' ∧ μ s' < μ s) ∨ (∃ o, body s = some (.inr o) ∧ P o)) : ∀ n s, I s → μ s < n → ∃ o, tm_whl body n s = some o ∧ P o := by
  intro n
  induction n with
  | zero => intro s _ h; omega
  | succ n ih =>
    intro s hI hm
    rcases h s hI with ⟨s', h1, h2, h3⟩ | ⟨o, h1, h2⟩
    · obtain ⟨o, ho, hp⟩ := ih s' h2 (by omega)
      exact ⟨o, by simp only [tm_whl, h1, Option.bind_some]; exact ho, hp⟩
    · exact ⟨o, by simp only [tm_whl, h1, Option.bind_some], h2⟩
/-- a counting loop, its states known by a relation -/
theorem tm_fI {σ ρ : Type} {body : σ → Option (σ ⊕ ρ)} {I : Nat → σ → Prop} {P : ρ → Prop} (a e : Nat) (hae : a ≤ e) (hs : ∀ i s, a ≤ i → i < e → I i s → ∃ s', body s = some (.inl s') ∧ I (i + 1) s') (hx : ∀ s, I e s → ∃ o, body s = some (.inr o) ∧ P o) {n : Nat} (hn : e - a < n) {s : σ} (hI : I a s) : ∃ o, tm_whl body n s = some o ∧ P o := by
  obtain ⟨k, rfl⟩ : ∃ k, e = a + k := ⟨e - a, by omega⟩
  have key : ∀ (k a n : Nat) (s : σ), (∀ i s, a ≤ i → i < a + k → I i s → ∃ s', body s = some (.inl s') ∧ I (i + 1) s') → (∀ s, I (a + k) s → ∃ o, body s = some (.inr o) ∧ P o) → k < n → I a s → ∃ o, tm_whl body n s = some o ∧ P o := by
    intro k
    induction k with
    | zero =>
      intro a n s _ hx hn hI
      obtain ⟨n, rfl⟩ : ∃ n', n = n' + 1 := ⟨n - 1, by omega⟩
      obtain ⟨o, h1, h2⟩ := hx s hI
      exact ⟨o, by simp only [tm_whl, h1, Option.bind_some], h2⟩
    | succ k ih =>
      intro a n s hs hx hn hI
      obtain ⟨n, rfl⟩ : ∃ n', n = n' + 1 := ⟨n - 1, by omega⟩
      obtain ⟨s', h1, h2⟩ := hs a s (Nat.le_refl a) (by omega) hI
      obtain ⟨o, h3, h4⟩ := ih (a + 1) n s' (fun i s h1 h2 h3 => hs i s (by omega) (by omega) h3) (fun s h => hx s (by rw [show a + (k + 1) = a + 1 + k by omega]; exact h)) (by omega) h2
      exact ⟨o, by simp only [tm_whl, h1, Option.bind_some]; exact h3, h4⟩
  exact key k a n s hs hx (by omega) hI
theorem tm_gT {α : Type} {b : Bool} {x : Option α} (h : b = true) : tm_gB b x = x := by subst h; rfl
theorem tm_inbN {j n : Nat} (h : j < n) (hn : n < 2 ^ 31) : tm_inb (nI j) n = true := by
  simp only [tm_inb, Bool.and_eq_true, decide_eq_true_eq]
  rw [nI_toInt (by omega)]
  omega
theorem tm_ucE (d : tm_M) (c : Nat) (f : Nat → Int32) : tm_upc d c f c = f := by
  simp [tm_upc]
theorem tm_ucN {d : tm_M} {c x : Nat} {f : Nat → Int32} (h : x ≠ c) : tm_upc d c f x = d x := by
  have : Nat.beq x c = false := by
    cases hb : Nat.beq x c with
    | false => rfl
    | true => exact absurd (Nat.eq_of_beq_eq_true hb) h
  simp [tm_upc, this]
theorem tm_ukE (d : tm_M) (c k : Nat) (v : Int32) : tm_upk d c k v c k = v := by
  simp [tm_upk]
theorem tm_ukN {d : tm_M} {c k x : Nat} {v : Int32} (h : x ≠ c) : tm_upk d c k v x = d x := by
  have : Nat.beq x c = false := by
    cases hb : Nat.beq x c with
    | false => rfl
    | true => exact absurd (Nat.eq_of_beq_eq_true hb) h
  simp [tm_upk, this]
theorem tm_ukF {d : tm_M} {c k j : Nat} {v : Int32} (h : j ≠ k) : tm_upk d c k v c j = d c j := by
  have : Nat.beq j k = false := by
    cases hb : Nat.beq j k with
    | false => rfl
    | true => exact absurd (Nat.eq_of_beq_eq_true hb) h
  simp [tm_upk, this]
theorem tm_inE {d r : tm_M} {o n x : Nat} (h : x < n) : tm_ins d o n r (o + x) = r x := by
  have h1 : Nat.ble o (o + x) = true := Nat.ble_eq_true_of_le (by omega)
  have h2 : Nat.ble (o + x + 1) (o + n) = true := Nat.ble_eq_true_of_le (by omega)
  simp [tm_ins, h1, h2]
theorem tm_inN {d r : tm_M} {o n x : Nat} (h : x < o ∨ o + n ≤ x) : tm_ins d o n r x = d x := by
  simp only [tm_ins]
  cases h1 : Nat.ble o x with
  | false => simp
  | true =>
    cases h2 : Nat.ble (x + 1) (o + n) with
    | false => simp
    | true =>
      have := Nat.le_of_ble_eq_true h1
      have := Nat.le_of_ble_eq_true h2
      omega
