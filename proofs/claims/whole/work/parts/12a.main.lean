/-! all calls; the new objects; the claim -/
theorem tm_main {N : Nat} (hN : 300 ≤ N) : tm_Steps N tm_Inv := ⟨tm_s0 hN, tm_s1 hN, tm_s2 hN, tm_s3 hN, tm_s4 hN, tm_s5 hN, tm_s6 hN, tm_s7, tm_s8 hN, tm_s9, tm_s10 hN, tm_s11 hN, tm_s12 hN, tm_s13 hN, tm_s14 hN, tm_s15 hN, tm_s16 hN, tm_s17 hN, tm_s18 hN, tm_s19 hN, tm_s20 hN, tm_s21 hN, tm_s22 hN, tm_s23, tm_s24 hN⟩
theorem tm_sta0 : tm_stv 1 (fun _ => 1) (fun _ => 0) (fun _ => 0) 100 60 0 1 := ⟨⟨by decide, by decide, rfl, fun i h0 h1 => by omega⟩, fun i _ => ⟨Nat.le_refl 1, Nat.le_of_ble_eq_true rfl⟩, ⟨by decide, by decide⟩, ⟨by decide, by decide⟩, by decide, by decide⟩
theorem tm_stX0 : tm_stX tm_iX5 1 (fun _ => 1) (fun _ => 0) 100 60 0 1 := ⟨by decide +kernel, by decide +kernel, by decide +kernel, by decide +kernel, by decide +kernel, fun i hi => by
  have e : i = 0 := by omega
  subst e
  decide +kernel, fun i h0 h1 => by omega, by decide +kernel⟩
theorem tm_stR0 : tm_stR (tm_iX8 1) 1 (fun _ => 1) (fun _ => 0) 100 60 0 1 := ⟨by decide +kernel, by decide +kernel, by decide +kernel, by decide +kernel, by decide +kernel, fun i hi => by
  have e : i = 0 := by omega
  subst e
  decide +kernel, fun i h0 h1 => by omega, by decide +kernel⟩
theorem tm_init {N : Nat} (hN : 300 ≤ N) : ∃ z, fX1_arrange N tm_iX1 tm_iX5 = some z ∧ tm_Inv (tm_iX7 z) tm_iX8 0 := by
  obtain ⟨z, r, hb, z1, z2, z3⟩ := tmX1_arr (d := tm_iX1) hN tm_sta0 tm_stX0
  refine ⟨z, z1, 1, fun _ => 1, fun _ => 0, fun _ => 0, 100, 60, 0, 1, r, hb, tm_sta0, tm_stX_c tm_stX0 rfl rfl rfl, tm_stR0, z2, tm_laid_c z3 (fun c hc => ?_), ⟨by rfl, by rfl, by rfl⟩, 0, 0, by decide, by decide, by rfl, by rfl, by rfl, fun j hj => by omega⟩
  rcases (show c = 0 ∨ c = 1 ∨ c = 2 ∨ c = 3 ∨ c = 4 ∨ c = 5 ∨ c = 6 ∨ c = 7 ∨ c = 8 ∨ c = 9 ∨ c = 10 ∨ c = 11 by omega) with rfl | rfl | rfl | rfl | rfl | rfl | rfl | rfl | rfl | rfl | rfl | rfl <;> rfl
theorem whole_start {p : Program} {e : Env} {s : State} {m : MethodId} {below : List Frame} {meth : Method} {c : Code} (l : Launch) (hflags : l.flags = flags0) {b L : Nat} {xs : Nat → Int32} (hL : L ≤ 1536) (C0 : lw_At p s m meth c b L xs) : W p l e room_1 s m #[Value.ref b] below meth c s.heap [] 0 0 (lw_Z below #[Value.ref b] s) (entryFrame m ([Value.ref b] : List Value).toArray 4) := by
  obtain ⟨z, hz, hI⟩ := tm_init (N := 300) (Nat.le_refl _)
  exact whole_open l hflags hL (tm_main (Nat.le_refl _)) hz hI C0
